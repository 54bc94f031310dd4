/-! ===== counted ===== -/
def cnd (σ : aSt) (p1 p2 p3 : Int32) (q : Nat) : Int32 := if gI σ 63 q = p3 then (if gI σ 62 q < p1 then 0 else if p2 ≤ gI σ 62 q then 0 else 1) else 0
theorem s_manyB {σ : aSt} {N : Nat} (h : pPay σ N) (p1 p2 p3 : Int32) : ∀ (f k : Nat), k ≤ N → N < k + f → f_X3_manyBetween_6 f p1 p2 p3 (fSum (fun i => cnd σ p1 p2 p3 (ord σ i)) k) (nI k) σ = some (fSum (fun i => cnd σ p1 p2 p3 (ord σ i)) N, σ) := by
  have hN := h.1
  intro f
  induction f with
  | zero => intro k h1 h2; omega
  | succ f ih =>
    intro k h1 h2
    show f_X3_manyBetween_6_b (f_X3_manyBetween_6 f) p1 p2 p3 _ (nI k) σ = _
    unfold f_X3_manyBetween_6_b f_X3_manyBetween_54
    rw [h.2.2.2.1]
    by_cases hk : k = N
    · subst hk
      rw [if_pos (Int32.le_refl _)]
    · have hlt : k < N := by omega
      obtain ⟨o1, o2, o3⟩ := h.2.2.2.2.2.2.2.2.1 k hlt
      obtain ⟨-, f1, f2, -⟩ := h.2.2.2.2.2.1 _ o1
      rw [if_neg (fun q => hk (by rw [nI_leI (by omega) (by omega)] at q; omega)), if_pos (ix_in (by omega) (by omega)), ix_cl (by omega), o3, oC_some, if_pos (aP_ok h o1), f2, f1, nI_1]
      have e := ih (k + 1) (by omega) (by omega)
      have es : fSum (fun i => cnd σ p1 p2 p3 (ord σ i)) (k + 1) = fSum (fun i => cnd σ p1 p2 p3 (ord σ i)) k + cnd σ p1 p2 p3 (ord σ k) := rfl
      rw [es] at e
      unfold cnd at e ⊢
      by_cases c1 : gI σ 63 (ord σ k) = p3
      · rw [if_pos c1] at e ⊢
        by_cases c2 : gI σ 62 (ord σ k) < p1
        · rw [if_pos c2, Int32.add_zero] at e
          rw [if_pos c2]
          exact e
        · rw [if_neg c2] at e ⊢
          by_cases c3 : p2 ≤ gI σ 62 (ord σ k)
          · rw [if_pos c3, Int32.add_zero] at e
            rw [if_pos c3]
            exact e
          · rw [if_neg c3] at e ⊢
            exact e
      · rw [if_neg c1, Int32.add_zero] at e
        rw [if_neg c1]
        exact e
theorem s_countM {σ : aSt} {N : Nat} (hN : N ≤ 120) (h5 : gI σ 57 5 = nI N) (p1 p2 p3 : Int32) : ∀ (f k : Nat), k ≤ N → N < k + f → f_X12_counted_51 f p1 p2 p3 (fSum (cnd σ p1 p2 p3) k) (nI k) σ = (let x4 := fSum (cnd σ p1 p2 p3) N; if x4 ≤ 0 then some (x4, σ) else if 5 ≤ x4 then some (x4, σ) else some (-1000000, σ)) := by
  intro f
  induction f with
  | zero => intro k h1 h2; omega
  | succ f ih =>
    intro k h1 h2
    show f_X12_counted_51_b (f_X12_counted_51 f) p1 p2 p3 _ (nI k) σ = _
    unfold f_X12_counted_51_b f_X12_counted_99 f_X12_counted_100 f_X12_counted_125 f_X12_counted_127
    rw [h5]
    by_cases hk : k = N
    · subst hk
      rw [if_pos (Int32.le_refl _)]
    · have hlt : k < N := by omega
      have ib : inB (nI k) 120 := ix_in (by omega) (by omega)
      rw [if_neg (fun q => hk (by rw [nI_leI (by omega) (by omega)] at q; omega)), if_pos ib, if_pos ib, if_pos ib, ix_cl (by omega), nI_1]
      have e := ih (k + 1) (by omega) (by omega)
      have es : fSum (cnd σ p1 p2 p3) (k + 1) = fSum (cnd σ p1 p2 p3) k + cnd σ p1 p2 p3 k := rfl
      rw [es] at e
      have eu : cnd σ p1 p2 p3 k = if gI σ 63 k = p3 then (if gI σ 62 k < p1 then 0 else if p2 ≤ gI σ 62 k then 0 else 1) else 0 := rfl
      rw [eu] at e
      by_cases c1 : gI σ 63 k = p3
      · rw [if_pos c1] at e ⊢
        by_cases c2 : gI σ 62 k < p1
        · rw [if_pos c2] at e ⊢
          exact e
        · rw [if_neg c2] at e ⊢
          by_cases c3 : p2 ≤ gI σ 62 k
          · rw [if_pos c3] at e ⊢
            exact e
          · rw [if_neg c3] at e ⊢
            exact e
      · rw [if_neg c1] at e ⊢
        exact e
theorem op_counted {σ : aSt} (h : Inv σ) (p1 p2 p3 : Int32) : Op (f_X11_counted p1 p2 p3) (f_X12_counted p1 p2 p3) σ := by
  obtain ⟨N, hp⟩ := h.pay
  have bad : ¬ (0 ≤ p1 ∧ p1 ≤ 200000 ∧ p1 ≤ p2 ∧ p2 ≤ 200000) ∨ ¬ (0 ≤ p3 ∧ p3 ≤ 19) → Op (f_X11_counted p1 p2 p3) (f_X12_counted p1 p2 p3) σ := by
    intro hb
    refine ⟨-1000001, σ, sI σ 57 0 0, ?_, ?_, h.thr 0⟩
    · unfold f_X11_counted f_X11_counted_18
      rw [s_areBounds]
      simp only [Option.bind_some, bI_0, decide_eq_false_iff_not]
      by_cases c1 : 0 ≤ p1 ∧ p1 ≤ 200000 ∧ p1 ≤ p2 ∧ p2 ≤ 200000
      · rw [if_neg (not_not_intro c1), s_within]
        simp only [Option.bind_some, bI_0, decide_eq_false_iff_not]
        rw [if_pos (hb.resolve_left (not_not_intro c1))]
      · rw [if_pos c1]
    · unfold f_X12_counted f_X12_counted_42
      rw [s_in 0 200000 0 200000 rfl rfl]
      simp only [Option.bind_some, bI_0, decide_eq_false_iff_not]
      by_cases c1 : 0 ≤ p1 ∧ p1 ≤ 200000
      · rw [if_neg (not_not_intro c1), s_in p1.toInt64 200000 p1 200000 rfl rfl]
        simp only [Option.bind_some, bI_0, decide_eq_false_iff_not]
        by_cases c2 : p1 ≤ p2 ∧ p2 ≤ 200000
        · rw [if_neg (not_not_intro c2), s_in 0 19 0 19 rfl rfl]
          simp only [Option.bind_some, bI_0, decide_eq_false_iff_not]
          rw [if_pos (hb.resolve_left (not_not_intro ⟨c1.1, c1.2, c2.1, c2.2⟩))]
        · rw [if_pos c2]
      · rw [if_pos c1]
  by_cases c1 : 0 ≤ p1 ∧ p1 ≤ 200000 ∧ p1 ≤ p2 ∧ p2 ≤ 200000
  case neg => exact bad (Or.inl c1)
  by_cases c3 : 0 ≤ p3 ∧ p3 ≤ 19
  case neg => exact bad (Or.inr c3)
  have hN := hp.1
  have e5 : gI (sI σ 57 0 0) 57 5 = nI N := by rw [thr_o 0 (Or.inr (by omega)), hp.2.2.1]
  have ec : cnd (sI σ 57 0 0) p1 p2 p3 = cnd σ p1 p2 p3 := by
    funext q
    unfold cnd
    rw [thr_o 0 (Or.inl (by omega)), thr_o 0 (Or.inl (by omega))]
  have ep := fSum_perm (ord_lt hp) (ord_inj hp) (cnd σ p1 p2 p3)
  have xs := s_manyB hp p1 p2 p3 aN 0 (by omega) (by show N < 0 + 1000000; omega)
  have ms := s_countM hN e5 p1 p2 p3 aN 0 (by omega) (by show N < 0 + 1000000; omega)
  rw [ec] at ms
  rw [ep] at xs
  generalize hS : fSum (cnd σ p1 p2 p3) N = S at xs ms
  have xx : f_X11_counted p1 p2 p3 σ = if S ≤ 0 then some (S, σ) else if 5 ≤ S then some (S, σ) else some (-1000000, σ) := by
    unfold f_X11_counted f_X11_counted_49 f_X11_counted_51 f_X3_manyBetween
    rw [s_areBounds]
    simp only [Option.bind_some, bI_0, decide_eq_false_iff_not]
    rw [if_neg (not_not_intro c1), s_within]
    simp only [Option.bind_some, bI_0, decide_eq_false_iff_not]
    rw [if_neg (not_not_intro c3), show f_X3_manyBetween_6 aN p1 p2 p3 0 0 σ = some (S, σ) from xs]
    rfl
  have mm : f_X12_counted p1 p2 p3 σ = if S ≤ 0 then some (S, sI σ 57 0 0) else if 5 ≤ S then some (S, sI σ 57 0 0) else some (-1000000, sI σ 57 0 0) := by
    unfold f_X12_counted
    rw [s_in 0 200000 0 200000 rfl rfl]
    simp only [Option.bind_some, bI_0, decide_eq_false_iff_not]
    rw [if_neg (not_not_intro ⟨c1.1, c1.2.1⟩), s_in p1.toInt64 200000 p1 200000 rfl rfl]
    simp only [Option.bind_some, bI_0, decide_eq_false_iff_not]
    rw [if_neg (not_not_intro c1.2.2), s_in 0 19 0 19 rfl rfl]
    simp only [Option.bind_some, bI_0, decide_eq_false_iff_not]
    rw [if_neg (not_not_intro c3)]
    exact ms
  by_cases d1 : S ≤ 0
  · exact ⟨S, σ, sI σ 57 0 0, by rw [xx, if_pos d1], by rw [mm, if_pos d1], h.thr 0⟩
  · by_cases d2 : 5 ≤ S
    · exact ⟨S, σ, sI σ 57 0 0, by rw [xx, if_neg d1, if_pos d2], by rw [mm, if_neg d1, if_pos d2], h.thr 0⟩
    · exact ⟨-1000000, σ, sI σ 57 0 0, by rw [xx, if_neg d1, if_neg d2], by rw [mm, if_neg d1, if_neg d2], h.thr 0⟩
