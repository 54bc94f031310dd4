/-! ===== count ===== -/
theorem fSum_add (f h : Nat → Int32) : ∀ n, fSum (fun i => f i + h i) n = fSum f n + fSum h n
  | 0 => rfl
  | n + 1 => by
    rw [fSum_s, fSum_s, fSum_s, fSum_add f h n, Int32.add_assoc, Int32.add_assoc, ← Int32.add_assoc (fSum h n), Int32.add_comm (fSum h n) (f n), Int32.add_assoc]
theorem s_sheetsC {σ : aSt} (h : pSheets σ) (hg : 84 ≤ gN σ) : ∀ (f k : Nat), k ≤ 8 → 8 < k + f → f_X11_sheetsThere_4 f (fSum (fun s => if gI σ 58 s < 0 then 0 else 1) k) (nI k) σ = some (fSum (fun s => if gI σ 58 s < 0 then 0 else 1) 8, σ) := by
  intro f
  induction f with
  | zero => intro k h1 h2; omega
  | succ f ih =>
    intro k h1 h2
    show f_X11_sheetsThere_4_b (f_X11_sheetsThere_4 f) (fSum (fun s => if gI σ 58 s < 0 then 0 else 1) k) (nI k) σ = _
    unfold f_X11_sheetsThere_4_b f_X11_sheetsThere_25
    by_cases e : k = 8
    · subst e
      rw [if_pos (show (8 : Int32) ≤ nI 8 from Int32.le_refl _)]
    · have hk := ih (k + 1) (by omega) (by omega)
      rw [fSum_s] at hk
      rw [if_neg (show ¬ (8 : Int32) ≤ nI k by rw [show (8 : Int32) = nI 8 from rfl, nI_leI (by omega) (by omega)]; omega), if_pos (ix_in (by omega) (by omega)), ix_cl (by omega), if_pos ⟨(sh_ok k (by omega)).1, by omega⟩, nI_1]
      rcases h k (by omega) with ⟨q1, q2⟩ | ⟨q1, l, n, q2, q3, q4, -⟩
      · rw [if_pos q1]
        rw [q2, if_pos (by decide), Int32.add_zero] at hk
        exact hk
      · rw [if_neg (by rw [q1]; decide)]
        rw [q4, if_neg (nI_neg (by omega))] at hk
        exact hk
theorem s_sheetsM {σ : aSt} : ∀ (f k : Nat), k ≤ 8 → 8 < k + f → f_X12_count_58 f (fSum (fun s => if gI σ 58 s < 0 then 0 else 1) k) (nI k) σ = some (fSum (fun s => if gI σ 58 s < 0 then 0 else 1) 8, σ) := by
  intro f
  induction f with
  | zero => intro k h1 h2; omega
  | succ f ih =>
    intro k h1 h2
    show f_X12_count_58_b (f_X12_count_58 f) (fSum (fun s => if gI σ 58 s < 0 then 0 else 1) k) (nI k) σ = _
    unfold f_X12_count_58_b f_X12_count_79
    by_cases e : k = 8
    · subst e
      rw [if_pos (show (8 : Int32) ≤ nI 8 from Int32.le_refl _)]
    · have hk := ih (k + 1) (by omega) (by omega)
      rw [fSum_s] at hk
      rw [if_neg (show ¬ (8 : Int32) ≤ nI k by rw [show (8 : Int32) = nI 8 from rfl, nI_leI (by omega) (by omega)]; omega), if_pos (ix_in (by omega) (by omega)), ix_cl (by omega), nI_1]
      by_cases c : gI σ 58 k < 0
      · rw [if_pos c]
        rw [if_pos c] at hk
        exact hk
      · rw [if_neg c]
        rw [if_neg c] at hk
        exact hk
theorem s_judgedC {σ : aSt} {N : Nat} (h : pPay σ N) (v : Int32) : ∀ (f k : Nat), k ≤ N → N < k + f → f_X3_manyJudged_4 f v (fSum (fun i => if gI σ 67 (ord σ i) = v then 1 else 0) k) (nI k) σ = some (fSum (fun i => if gI σ 67 (ord σ i) = v then 1 else 0) N, σ) := by
  obtain ⟨h1, h2, h3, h4, h5, h6, h7, h8, h9, h10⟩ := h
  intro f
  induction f with
  | zero => intro k q1 q2; omega
  | succ f ih =>
    intro k q1 q2
    show f_X3_manyJudged_4_b (f_X3_manyJudged_4 f) v (fSum (fun i => if gI σ 67 (ord σ i) = v then 1 else 0) k) (nI k) σ = _
    unfold f_X3_manyJudged_4_b f_X3_manyJudged_28
    rw [h4]
    by_cases e : k = N
    · subst e
      rw [if_pos (Int32.le_refl _)]
    · have hk := ih (k + 1) (by omega) (by omega)
      rw [fSum_s] at hk
      obtain ⟨z1, z2, z3⟩ := h9 k (by omega)
      rw [if_neg (fun q => e (by rw [nI_leI (by omega) (by omega)] at q; omega)), if_pos (ix_in (by omega) (by omega)), ix_cl (by omega), z3]
      simp only [oC_some]
      rw [if_pos ⟨aSh_pay (by omega), by omega⟩, (h6 _ z1).2.2.2.2.2.2.2, nI_1]
      by_cases c : gI σ 67 (ord σ k) = v
      · rw [if_pos c]
        rw [if_pos c] at hk
        exact hk
      · rw [if_neg c]
        rw [if_neg c, Int32.add_zero] at hk
        exact hk
def xJd (j : Nat) (v : Int32) : Int32 := if j = 3 then (if v = -1000000 then 0 else 1) else (if v = 1 then 1 else 0)
theorem s_judgedM {σ : aSt} {N j : Nat} (hN : N ≤ 120) (hj : j = 3 ∨ j = 4) (h5 : gI σ 57 5 = nI N) : ∀ (f k : Nat), k ≤ N → N < k + f → f_X12_count_101 f (nI j) (fSum (fun n => xJd j (gI σ 67 n)) k) (nI k) σ = some (fSum (fun n => xJd j (gI σ 67 n)) N, σ) := by
  intro f
  induction f with
  | zero => intro k q1 q2; omega
  | succ f ih =>
    intro k q1 q2
    show f_X12_count_101_b (f_X12_count_101 f) (nI j) (fSum (fun n => xJd j (gI σ 67 n)) k) (nI k) σ = _
    unfold f_X12_count_101_b f_X12_count_149
    rw [h5]
    by_cases e : k = N
    · subst e
      rw [if_pos (Int32.le_refl _)]
    · have hk := ih (k + 1) (by omega) (by omega)
      rw [fSum_s] at hk
      have ib : inB (nI k) 120 := ix_in (by omega) (by omega)
      rw [if_neg (fun q => e (by rw [nI_leI (by omega) (by omega)] at q; omega)), if_pos ib, if_pos ib, ix_cl (by omega), nI_1]
      rcases hj with q | q
      · subst q
        rw [if_pos (by decide)]
        unfold xJd at hk ⊢
        rw [if_pos rfl] at hk
        by_cases c : gI σ 67 k = -1000000
        · rw [if_pos c]
          rw [if_pos c] at hk
          exact hk
        · rw [if_neg c]
          rw [if_neg c] at hk
          exact hk
      · subst q
        rw [if_neg (by decide)]
        unfold xJd at hk ⊢
        rw [if_neg (by decide)] at hk
        by_cases c : gI σ 67 k = 1
        · rw [if_pos c]
          rw [if_pos c] at hk
          exact hk
        · rw [if_neg c]
          rw [if_neg c] at hk
          exact hk
theorem op_count {σ : aSt} (h : Inv σ) (p1 : Int32) : Op (f_X11_count p1) (f_X12_count p1) σ := by
  have hI0 := h.thr 0
  have hgn := h.gn
  obtain ⟨N, b, R, hw, hc, hca, hp, hb⟩ := h.data
  have hN := hw.hN
  have ho := ord_lt hp
  have hi := ord_inj hp
  by_cases c0 : p1 = 0
  · refine ⟨fSum (fun s => if gI σ 58 s < 0 then 0 else 1) 8, σ, sI σ 57 0 0, ?_, ?_, hI0⟩
    · unfold f_X11_count f_X11_sheetsThere
      rw [if_pos c0, show f_X11_sheetsThere_4 aN 0 0 σ = _ from s_sheetsC h.1 hgn aN 0 (by omega) (by show 8 < 0 + 1000000; omega)]
      rfl
    · unfold f_X12_count
      rw [if_pos c0, show f_X12_count_58 aN 0 0 (sI σ 57 0 0) = _ from s_sheetsM (σ := sI σ 57 0 0) aN 0 (by omega) (by show 8 < 0 + 1000000; omega)]
      rfl
  by_cases c1 : p1 = 1
  · refine ⟨nI N, σ, sI σ 57 0 0, ?_, ?_, hI0⟩
    · unfold f_X11_count
      rw [if_neg c0, if_pos c1, hp.2.2.2.1]
    · unfold f_X12_count
      rw [if_neg c0, if_pos c1, gI_other (Or.inr (by omega)), hp.2.2.1]
  by_cases c2 : p1 = 2
  · refine ⟨nI R, σ, sI σ 57 0 0, ?_, ?_, hI0⟩
    · unfold f_X11_count
      rw [if_neg c0, if_neg c1, if_pos c2, hc.r11]
      simp only [oC_some]
      rw [if_pos hc.okb, hc.sz]
    · unfold f_X12_count
      rw [if_neg c0, if_neg c1, if_pos c2, gI_other (Or.inr (by omega)), hb.2.1]
  have e67 : ∀ n, gI (sI σ 57 0 0) 67 n = gI σ 67 n := fun n => gI_other (Or.inl (by omega))
  have hM : ∀ j, (j = 3 ∨ j = 4) → f_X12_count_101 aN (nI j) 0 0 (sI σ 57 0 0) = some (fSum (fun n => xJd j (gI σ 67 n)) N, sI σ 57 0 0) := fun j hj => by
    have := s_judgedM (σ := sI σ 57 0 0) hN hj (by rw [gI_other (Or.inr (by omega))]; exact hp.2.2.1) aN 0 (by omega) (by show N < 0 + 1000000; omega)
    simp only [e67] at this
    exact this
  have hC : ∀ v, f_X3_manyJudged v σ = some (fSum (fun n => if gI σ 67 n = v then 1 else 0) N, σ) := fun v => by
    have := s_judgedC hp v aN 0 (by omega) (by show N < 0 + 1000000; omega)
    rw [fSum_perm ho hi (fun n => if gI σ 67 n = v then 1 else 0)] at this
    exact this
  by_cases c3 : p1 = 3
  · refine ⟨fSum (fun n => xJd 3 (gI σ 67 n)) N, σ, sI σ 57 0 0, ?_, ?_, hI0⟩
    · unfold f_X11_count
      rw [if_neg c0, if_neg c1, if_neg c2, if_pos c3, hC]
      simp only [Option.bind_some]
      rw [hC]
      simp only [Option.bind_some]
      rw [← fSum_add]
      congr 2
      refine fSum_congr (fun n hn => ?_)
      obtain ⟨-, -, -, -, -, -, z⟩ := hp.2.2.2.2.1 n hn
      unfold xJd
      rcases z with z | z | z <;> rw [z] <;> rfl
    · unfold f_X12_count
      rw [if_neg c0, if_neg c1, if_neg c2, if_pos c3]
      exact hM 3 (Or.inl rfl)
  by_cases c4 : p1 = 4
  · refine ⟨fSum (fun n => xJd 4 (gI σ 67 n)) N, σ, sI σ 57 0 0, ?_, ?_, hI0⟩
    · unfold f_X11_count
      rw [if_neg c0, if_neg c1, if_neg c2, if_neg c3, if_pos c4, hC]
      rfl
    · unfold f_X12_count
      rw [if_neg c0, if_neg c1, if_neg c2, if_neg c3, if_pos c4]
      exact hM 4 (Or.inr rfl)
  by_cases c5 : p1 = 5
  · obtain ⟨m1, x, m2, m3⟩ := h.2.1
    refine ⟨xBits (nI x), σ, sI σ 57 0 0, ?_, ?_, hI0⟩
    · unfold f_X11_count
      rw [if_neg c0, if_neg c1, if_neg c2, if_neg c3, if_neg c4, if_pos c5, m1, m3, s_bitCount m2]
      rfl
    · unfold f_X12_count
      rw [if_neg c0, if_neg c1, if_neg c2, if_neg c3, if_neg c4, if_pos c5, gI_other (Or.inr (by omega)), m3, s_bits]
      rfl
  by_cases c6 : p1 = 6
  · obtain ⟨N, b, R, q, m, σ1, σ2, hw, hm, hq, a1, a2, a3, a4, b1, b2, b3, b4, hI⟩ := h.line
    refine ⟨nI m, σ1, σ2, ?_, ?_, hI⟩
    · unfold f_X11_count
      rw [if_neg c0, if_neg c1, if_neg c2, if_neg c3, if_neg c4, if_neg c5, if_pos c6, a1]
      simp only [Option.bind_some]
      rw [a3]
    · unfold f_X12_count
      rw [if_neg c0, if_neg c1, if_neg c2, if_neg c3, if_neg c4, if_neg c5, if_pos c6, b1]
      simp only [Option.bind_some]
      rw [b3]
  by_cases c7 : p1 = 7
  · obtain ⟨n, t1, t2, t3, -⟩ := h.2.2.1
    refine ⟨nI n, σ, sI σ 57 0 0, ?_, ?_, hI0⟩
    · unfold f_X11_count
      rw [if_neg c0, if_neg c1, if_neg c2, if_neg c3, if_neg c4, if_neg c5, if_neg c6, if_pos c7, t2]
    · unfold f_X12_count
      rw [if_neg c0, if_neg c1, if_neg c2, if_neg c3, if_neg c4, if_neg c5, if_neg c6, if_pos c7, gI_other (Or.inr (by omega)), t3]
  · refine ⟨-1000001, σ, sI σ 57 0 0, ?_, ?_, hI0⟩
    · unfold f_X11_count
      rw [if_neg c0, if_neg c1, if_neg c2, if_neg c3, if_neg c4, if_neg c5, if_neg c6, if_neg c7]
    · unfold f_X12_count
      rw [if_neg c0, if_neg c1, if_neg c2, if_neg c3, if_neg c4, if_neg c5, if_neg c6, if_neg c7]
