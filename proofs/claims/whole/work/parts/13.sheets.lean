/-! ===== sheets: sheet, set, copy, drop ===== -/
/-- both sides answer alike, and the invariant holds behind them -/
def Op {ρ : Type} (fx fm : aSt → Option (ρ × aSt)) (σ : aSt) : Prop := ∃ r σ1 σ2, fx σ = some (r, σ1) ∧ fm σ1 = some (r, σ2) ∧ Inv σ2
def cSh (a k : Nat) : Prop := scr a k ∨ (41 ≤ a ∧ a ≤ 60 ∧ a ≠ 57) ∨ (a = 0 ∧ k = 10) ∨ (a = 57 ∧ k = 1)
theorem Inv.gn {σ : aSt} (h : Inv σ) : 84 ≤ gN σ := by
  obtain ⟨-, -, -, -, -, N, b, R, -, h7, -, -⟩ := h
  rw [h7.2.1]
  exact Nat.le_add_right _ _
theorem Inv.sh {σ σ' : aSt} (h : Inv σ) (f : Fr cSh σ σ') (hs : pSheets σ') (he : gI σ' 0 10 = gI σ' 57 1) : Inv σ' := by
  obtain ⟨h1, h2, h3, h4, h5, N, b, R, h6, h7, h8, h9⟩ := h
  have nb : ∀ a k, cSh a k → ¬ cBook b a k := by
    intro a k hs
    unfold cSh scr at hs
    unfold cBook
    rcases h6 with ⟨q, -, -⟩ | ⟨q, -, -⟩ <;> omega
  have np : ∀ a k, cSh a k → ¬ cPay a k := by
    intro a k hs
    unfold cSh scr at hs
    unfold cPay
    omega
  have nc : ∀ a k, cSh a k → pers a k = false := by
    intro a k hs
    rcases hs with q | q
    · exact scr_pers q
    · unfold pers
      simp only [Bool.or_eq_false_iff, Bool.and_eq_false_iff, decide_eq_false_iff_not]
      omega
  obtain ⟨s1, s2, s3, s4, s5, s6⟩ := h4
  refine ⟨hs, h2.fr f (by unfold cSh scr; omega) (by unfold cSh scr; omega), h3.fr f (by unfold cSh scr; omega) (by unfold cSh scr; omega) (fun k => by unfold cSh scr; omega) (fun k => by unfold cSh scr; omega), ?_, h5.fr f (by unfold cSh scr; omega) (by unfold cSh scr; omega) (fun k => by unfold cSh scr; omega) (fun k => by unfold cSh scr; omega), N, b, R, ?_, h7.fr f np, h8.fr f nb, h9.fr f nc (fun k => by unfold cSh scr; omega) (fun k => by unfold cSh scr; omega)⟩
  · unfold pSmall
    rw [f.2.1 0 9 (by unfold cSh scr; omega), f.2.1 57 31 (by unfold cSh scr; omega), f.2.1 26 0 (by unfold cSh scr; omega), f.2.1 26 1 (by unfold cSh scr; omega), f.2.1 80 0 (by unfold cSh scr; omega), f.2.1 80 1 (by unfold cSh scr; omega)]
    exact ⟨he, s2, s3, s4, s5, s6⟩
  · rw [f.2.2 11 0 (by unfold cSh scr; omega), f.2.2 0 8 (by unfold cSh scr; omega)]
    exact h6
theorem sh_ok : ∀ s, s < 8 → aSh (41 + 2 * s) = 9 ∧ aSh (41 + 2 * s + 1) = 13 ∧ aLn (41 + 2 * s + 1) = 120 := by decide
theorem i120 (s k : Nat) : (120 : Int32) * nI s + nI k = nI (120 * s + k) := by
  rw [show (120 : Int32) = nI 120 from rfl, pk_mul, nI_add]
theorem s_lay {s : Nat} (hs : s < 8) (l n : Int32) (σ : aSt) (hg : 84 ≤ gN σ) : ∃ σ', f_X9_lay (41 + 2 * s) l n σ = some ((), σ') ∧ Fr (fun a _ => a = 41 + 2 * s ∨ a = 42 + 2 * s) σ σ' ∧ gI σ' (41 + 2 * s) 1 = 1 ∧ gI σ' (41 + 2 * s) 2 = l ∧ gI σ' (41 + 2 * s) 3 = n ∧ ∀ i, i < 120 → gI σ' (42 + 2 * s) i = 0 := by
  obtain ⟨a1, a2, a3⟩ := sh_ok s hs
  unfold f_X9_lay
  rw [if_pos ⟨a1, by omega⟩]
  obtain ⟨σ1, e1, e2, -, e3⟩ := s_fill (41 + 2 * s + 1) 0 σ a2 (by omega) (by omega)
  rw [e1]
  simp only [Option.bind_some]
  rw [if_pos ⟨a1, by rw [e2.1]; omega⟩]
  refine ⟨_, rfl, ?_, ?_, ?_, ?_, fun i hi => ?_⟩
  · exact (((e2.mono (D := fun a _ => a = 41 + 2 * s ∨ a = 42 + 2 * s) (fun a k q => Or.inr (by omega))).sI (Or.inl rfl)).sI (Or.inl rfl)).sI (Or.inl rfl)
  · rw [gI_other (Or.inr (by omega)), gI_other (Or.inr (by omega)), gI_same]
  · rw [gI_other (Or.inr (by omega)), gI_same]
  · rw [gI_same]
  · rw [gI_other (Or.inl (by omega)), gI_other (Or.inl (by omega)), gI_other (Or.inl (by omega)), show 42 + 2 * s = 41 + 2 * s + 1 by omega]
    exact e3 i (by omega)
theorem s_clearM {s : Nat} (hs : s < 8) (v : Int32) : ∀ (n k : Nat) (σ : aSt), k ≤ 120 → 120 < k + n → ∃ σ', f_X12_sheet_65 n (nI s) v (nI k) σ = some (v, σ') ∧ Fr (fun a j => a = 60 ∧ 120 * s + k ≤ j ∧ j < 120 * s + 120) σ σ' ∧ ∀ i, k ≤ i → i < 120 → gI σ' 60 (120 * s + i) = 0 := by
  intro n
  induction n with
  | zero => intro k σ h1 h2; omega
  | succ n ih =>
    intro k σ h1 h2
    show ∃ σ', f_X12_sheet_65_b (f_X12_sheet_65 n) (nI s) v (nI k) σ = some (v, σ') ∧ _
    unfold f_X12_sheet_65_b
    by_cases hk : k = 120
    · subst hk
      rw [if_pos (show (120 : Int32) ≤ nI 120 from Int32.le_refl _)]
      exact ⟨σ, rfl, Fr.rf, fun i h3 h4 => by omega⟩
    · rw [if_neg (fun q => hk (by rw [show (120 : Int32) = nI 120 from rfl, nI_leI (by omega) (by omega)] at q; omega)), i120, if_pos (ix_in (by omega) (by omega)), ix_cl (by omega), nI_1]
      obtain ⟨σ', e1, e2, e3⟩ := ih (k + 1) (sI σ 60 (120 * s + k) 0) (by omega) (by omega)
      refine ⟨σ', e1, (Fr.sI Fr.rf ⟨rfl, by omega, by omega⟩).tr (e2.mono (fun a j q => ⟨q.1, by omega, q.2.2⟩)), fun i h3 h4 => ?_⟩
      by_cases hi : i = k
      · subst hi
        rw [e2.2.1 60 (120 * s + i) (fun q => by omega), gI_same]
      · exact e3 i (by omega) h4
/-- the cells of one sheet, and what every call of a sheet may write -/
def cS (s a k : Nat) : Prop := a = 41 + 2 * s ∨ a = 42 + 2 * s ∨ ((a = 58 ∨ a = 59) ∧ k = s) ∨ (a = 60 ∧ 120 * s ≤ k ∧ k < 120 * s + 120) ∨ (a = 0 ∧ k = 10) ∨ (a = 57 ∧ (k = 0 ∨ k = 1))
theorem cS_b {s a k : Nat} (h : a = 41 + 2 * s ∨ a = 42 + 2 * s) : cS s a k := h.elim Or.inl (fun q => Or.inr (Or.inl q))
theorem cS_60 {s a k : Nat} (h : a = 60 ∧ 120 * s ≤ k ∧ k < 120 * s + 120) : cS s a k := Or.inr (Or.inr (Or.inr (Or.inl h)))
def shC (σ : aSt) (s : Nat) : Prop := (gI σ (41 + 2 * s) 1 = 0 ∧ gI σ 58 s = -1) ∨ (gI σ (41 + 2 * s) 1 = 1 ∧ ∃ l n, l < 3 ∧ n ≤ 120 ∧ gI σ 58 s = nI l ∧ gI σ (41 + 2 * s) 2 = nI l ∧ gI σ 59 s = nI n ∧ gI σ (41 + 2 * s) 3 = nI n ∧ ∀ i, i < 120 → gI σ (42 + 2 * s) i = gI σ 60 (120 * s + i))
theorem cS_cSh {s a k : Nat} (hs : s < 8) (h : cS s a k) : cSh a k := by
  rcases h with h | h | h | h | h | ⟨h, h2 | h2⟩
  · exact Or.inr (Or.inl (by omega))
  · exact Or.inr (Or.inl (by omega))
  · exact Or.inr (Or.inl (by omega))
  · exact Or.inr (Or.inl (by omega))
  · exact Or.inr (Or.inr (Or.inl h))
  · subst h; subst h2; exact Or.inl (by simp [scr])
  · exact Or.inr (Or.inr (Or.inr ⟨h, h2⟩))
theorem Inv.one {σ σ' : aSt} {s : Nat} (h : Inv σ) (hs : s < 8) (f : Fr (cS s) σ σ') (hc : shC σ' s) (he : gI σ' 0 10 = gI σ' 57 1) : Inv σ' := by
  refine h.sh (f.mono (fun a k q => cS_cSh hs q)) (fun t ht => ?_) he
  by_cases hts : t = s
  · rw [hts]; exact hc
  · have g : ∀ a k, ¬ cS s a k → gI σ' a k = gI σ a k := f.2.1
    rw [g (41 + 2 * t) 1 (by unfold cS; omega), g 58 t (by unfold cS; omega), g (41 + 2 * t) 2 (by unfold cS; omega), g (41 + 2 * t) 3 (by unfold cS; omega), g 59 t (by unfold cS; omega)]
    rcases h.1 t ht with q | ⟨q, l, n, q1, q2, q3, q4, q5, q6, q7⟩
    · exact Or.inl q
    · refine Or.inr ⟨q, l, n, q1, q2, q3, q4, q5, q6, fun i hi => ?_⟩
      rw [g (42 + 2 * t) i (by unfold cS; omega), g 60 (120 * t + i) (by unfold cS; omega)]
      exact q7 i hi
theorem Inv.thr {σ : aSt} (h : Inv σ) (v : Int32) : Inv (sI σ 57 0 v) := h.fr (Fr.sI Fr.rf (by simp [scr]))
/-- a finding, on both sides -/
theorem Inv.find {σ : aSt} (h : Inv σ) (v : Int32) : Inv (sI (sI (sI (sI σ 0 10 v) 57 0 0) 57 1 0) 57 1 v) := by
  have f : Fr (cS 0) σ (sI (sI (sI (sI σ 0 10 v) 57 0 0) 57 1 0) 57 1 v) := (((Fr.sI Fr.rf (by simp [cS])).sI (by simp [cS])).sI (by simp [cS])).sI (by simp [cS])
  refine h.sh (f.mono (fun a k q => cS_cSh (by omega) q)) ?_ ?_
  · refine h.1.fr (C := fun a k => (a = 0 ∧ k = 10) ∨ (a = 57 ∧ (k = 0 ∨ k = 1))) ((((Fr.sI Fr.rf (Or.inl ⟨rfl, rfl⟩)).sI (Or.inr ⟨rfl, Or.inl rfl⟩)).sI (Or.inr ⟨rfl, Or.inr rfl⟩)).sI (Or.inr ⟨rfl, Or.inr rfl⟩)) (fun a k q => by omega)
  · rw [gI_same, gI_other (Or.inl (by omega)), gI_other (Or.inl (by omega)), gI_other (Or.inl (by omega)), gI_same]
theorem op_sheet {σ : aSt} (h : Inv σ) (p1 p2 p3 : Int32) : Op (f_X11_sheet p1 p2 p3) (f_X12_sheet p1 p2 p3) σ := by
  by_cases c1 : 0 ≤ p1 ∧ p1 ≤ 7
  · by_cases c2 : 0 ≤ p2 ∧ p2 ≤ 2
    · by_cases c3 : p3 ≤ 120
      · by_cases c4 : 0 ≤ p3
        · obtain ⟨s, hs, rfl⟩ := ix_rng (N := 8) rfl rfl c1.1 c1.2
          obtain ⟨l, hl, rfl⟩ := ix_rng (N := 3) rfl rfl c2.1 c2.2
          obtain ⟨n, hn, rfl⟩ := ix_rng (N := 121) rfl rfl c4 c3
          obtain ⟨σ1, e1, e2, v1, v2, v3, v4⟩ := s_lay hs (nI l) (nI n) σ h.gn
          obtain ⟨σ2, e5, e6, e7⟩ := s_clearM hs (nI n) aN 0 (sI (sI (sI (sI (sI σ1 0 10 0) 57 0 0) 57 1 0) 58 s (nI l)) 59 s (nI n)) (by omega) (by show 120 < 0 + 1000000; omega)
          refine ⟨nI n, sI σ1 0 10 0, σ2, ?_, ?_, ?_⟩
          · unfold f_X11_sheet
            rw [s_isSheet]
            simp only [Option.bind_some, bI_0, decide_eq_false_iff_not]
            rw [if_neg (not_not_intro c1), s_within]
            simp only [Option.bind_some, bI_0, decide_eq_false_iff_not]
            rw [if_neg (not_not_intro c2), if_pos c3, if_pos c4, if_pos (ix_in hs (by omega)), ix_cl (by omega), if_pos ⟨(sh_ok s hs).1, by have := h.gn; omega⟩, e1]
            rfl
          · unfold f_X12_sheet
            rw [s_isSheetM]
            simp only [Option.bind_some, bI_0, decide_eq_false_iff_not]
            rw [if_neg (not_not_intro c1), s_in 0 2 0 2 rfl rfl]
            simp only [Option.bind_some, bI_0, decide_eq_false_iff_not]
            rw [if_neg (not_not_intro c2), if_pos c3, if_pos c4, if_pos (ix_in hs (by omega)), if_pos (ix_in hs (by omega)), ix_cl (by omega)]
            exact e5
          · have f : Fr (cS s) σ σ2 := ((((((e2.mono (fun a k q => cS_b q)).sI (by simp [cS])).sI (by simp [cS])).sI (by simp [cS])).sI (by simp [cS])).sI (by simp [cS])).tr (e6.mono (fun a k q => cS_60 ⟨q.1, by omega, q.2.2⟩))
            have g : ∀ a k, a ≠ 60 → gI σ2 a k = gI (sI (sI (sI (sI (sI σ1 0 10 0) 57 0 0) 57 1 0) 58 s (nI l)) 59 s (nI n)) a k := fun a k q => e6.2.1 a k (fun z => q z.1)
            refine h.one hs f (Or.inr ⟨?_, l, n, hl, by omega, ?_, ?_, ?_, ?_, fun i hi => ?_⟩) ?_
            · rw [g _ _ (by omega), gI_other (Or.inl (by omega)), gI_other (Or.inl (by omega)), gI_other (Or.inl (by omega)), gI_other (Or.inl (by omega)), gI_other (Or.inl (by omega)), v1]
            · rw [g _ _ (by omega), gI_other (Or.inl (by omega)), gI_same]
            · rw [g _ _ (by omega), gI_other (Or.inl (by omega)), gI_other (Or.inl (by omega)), gI_other (Or.inl (by omega)), gI_other (Or.inl (by omega)), gI_other (Or.inl (by omega)), v2]
            · rw [g _ _ (by omega), gI_same]
            · rw [g _ _ (by omega), gI_other (Or.inl (by omega)), gI_other (Or.inl (by omega)), gI_other (Or.inl (by omega)), gI_other (Or.inl (by omega)), gI_other (Or.inl (by omega)), v3]
            · rw [e7 i (by omega) hi, g _ _ (by omega), gI_other (Or.inl (by omega)), gI_other (Or.inl (by omega)), gI_other (Or.inl (by omega)), gI_other (Or.inl (by omega)), gI_other (Or.inl (by omega)), v4 i hi]
            · rw [g _ _ (by omega), g _ _ (by omega), gI_other (Or.inl (by omega)), gI_other (Or.inl (by omega)), gI_other (Or.inl (by omega)), gI_other (Or.inl (by omega)), gI_same, gI_other (Or.inl (by omega)), gI_other (Or.inl (by omega)), gI_same]
        · refine ⟨-1000014, sI σ 0 10 4, _, ?_, ?_, h.find 4⟩
          · unfold f_X11_sheet
            rw [s_isSheet]
            simp only [Option.bind_some, bI_0, decide_eq_false_iff_not]
            rw [if_neg (not_not_intro c1), s_within]
            simp only [Option.bind_some, bI_0, decide_eq_false_iff_not]
            rw [if_neg (not_not_intro c2), if_pos c3, if_neg c4]
            rfl
          · unfold f_X12_sheet
            rw [s_isSheetM]
            simp only [Option.bind_some, bI_0, decide_eq_false_iff_not]
            rw [if_neg (not_not_intro c1), s_in 0 2 0 2 rfl rfl]
            simp only [Option.bind_some, bI_0, decide_eq_false_iff_not]
            rw [if_neg (not_not_intro c2), if_pos c3, if_neg c4]
            rfl
      · refine ⟨-1000001, σ, _, ?_, ?_, h.thr 0⟩
        · unfold f_X11_sheet
          rw [s_isSheet]
          simp only [Option.bind_some, bI_0, decide_eq_false_iff_not]
          rw [if_neg (not_not_intro c1), s_within]
          simp only [Option.bind_some, bI_0, decide_eq_false_iff_not]
          rw [if_neg (not_not_intro c2), if_neg c3]
          rfl
        · unfold f_X12_sheet
          rw [s_isSheetM]
          simp only [Option.bind_some, bI_0, decide_eq_false_iff_not]
          rw [if_neg (not_not_intro c1), s_in 0 2 0 2 rfl rfl]
          simp only [Option.bind_some, bI_0, decide_eq_false_iff_not]
          rw [if_neg (not_not_intro c2), if_neg c3]
          rfl
    · refine ⟨-1000001, σ, _, ?_, ?_, h.thr 0⟩
      · unfold f_X11_sheet
        rw [s_isSheet]
        simp only [Option.bind_some, bI_0, decide_eq_false_iff_not]
        rw [if_neg (not_not_intro c1), s_within]
        simp only [Option.bind_some, bI_0, decide_eq_false_iff_not]
        rw [if_pos c2]
        rfl
      · unfold f_X12_sheet
        rw [s_isSheetM]
        simp only [Option.bind_some, bI_0, decide_eq_false_iff_not]
        rw [if_neg (not_not_intro c1), s_in 0 2 0 2 rfl rfl]
        simp only [Option.bind_some, bI_0, decide_eq_false_iff_not]
        rw [if_pos c2]
        rfl
  · refine ⟨-1000001, σ, _, ?_, ?_, h.thr 0⟩
    · unfold f_X11_sheet
      rw [s_isSheet]
      simp only [Option.bind_some, bI_0, decide_eq_false_iff_not]
      rw [if_pos c1]
      rfl
    · unfold f_X12_sheet
      rw [s_isSheetM]
      simp only [Option.bind_some, bI_0, decide_eq_false_iff_not]
      rw [if_pos c1]
      rfl
