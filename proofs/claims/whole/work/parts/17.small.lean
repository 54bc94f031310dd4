/-! ===== verdict, cost, rule, trace, feed ===== -/
/-- cells of the costs and faults -/
def cSm (a k : Nat) : Prop := scr a k ∨ (a = 26 ∧ k ≤ 1) ∨ a = 80 ∨ (a = 0 ∧ k = 9) ∨ (a = 57 ∧ k = 31)
def cTp (a k : Nat) : Prop := scr a k ∨ (a = 5 ∧ k = 3) ∨ a = 9 ∨ a = 77 ∨ (a = 57 ∧ k = 30)
theorem np_of {C : Nat → Nat → Prop} (h : ∀ a k, C a k → scr a k ∨ a = 26 ∨ a = 80 ∨ a = 0 ∨ a = 5 ∨ a = 9 ∨ a = 77 ∨ a = 32 ∨ a = 33 ∨ a = 83 ∨ a = 23 ∨ a = 24 ∨ (a = 57 ∧ (k = 31 ∨ k = 30 ∨ k = 46))) : (∀ a k, C a k → ¬ cPay a k) ∧ (∀ a k, C a k → pers a k = false) ∧ (∀ b a k, (b = 12 ∨ b = 34) → C a k → ¬ cBook b a k) := by
  refine ⟨fun a k q => ?_, fun a k q => ?_, fun b a k hb q => ?_⟩
  · have z := h a k q
    unfold scr at z
    unfold cPay
    omega
  · rcases h a k q with z | z
    · exact scr_pers z
    · unfold pers
      simp only [Bool.or_eq_false_iff, Bool.and_eq_false_iff, decide_eq_false_iff_not]
      omega
  · have z := h a k q
    unfold scr at z
    unfold cBook
    omega
theorem Inv.sm {σ σ' : aSt} (h : Inv σ) (f : Fr cSm σ σ') (hs : pSmall σ') : Inv σ' := by
  obtain ⟨h1, h2, h3, h4, h5, N, b, R, h6, h7, h8, h9⟩ := h
  obtain ⟨np, nc, nb⟩ := np_of (C := cSm) (fun a k q => by
    rcases q with q | ⟨q, -⟩ | q | ⟨q, -⟩ | ⟨q, q2⟩
    · exact Or.inl q
    · exact Or.inr (Or.inl q)
    · exact Or.inr (Or.inr (Or.inl q))
    · exact Or.inr (Or.inr (Or.inr (Or.inl q)))
    · subst q; subst q2; simp)
  refine ⟨h1.fr f (fun a k hs => by unfold cSm scr at hs; omega), h2.fr f (by unfold cSm scr; omega) (by unfold cSm scr; omega), h3.fr f (by unfold cSm scr; omega) (by unfold cSm scr; omega) (fun k => by unfold cSm scr; omega) (fun k => by unfold cSm scr; omega), hs, h5.fr f (by unfold cSm scr; omega) (by unfold cSm scr; omega) (fun k => by unfold cSm scr; omega) (fun k => by unfold cSm scr; omega), N, b, R, ?_, h7.fr f np, h8.fr f (fun a k q => nb b a k (by rcases h6 with ⟨z, -⟩ | ⟨z, -⟩ <;> omega) q), h9.fr f nc (fun k => by unfold cSm scr; omega) (fun k => by unfold cSm scr; omega)⟩
  rw [f.2.2 11 0 (by unfold cSm scr; omega), f.2.2 0 8 (by unfold cSm scr; omega)]
  exact h6
theorem Inv.tp {σ σ' : aSt} (h : Inv σ) (f : Fr cTp σ σ') (hs : pTape σ') : Inv σ' := by
  obtain ⟨h1, h2, h3, h4, h5, N, b, R, h6, h7, h8, h9⟩ := h
  obtain ⟨np, nc, nb⟩ := np_of (C := cTp) (fun a k q => by
    rcases q with q | ⟨q, -⟩ | q | q | ⟨q, q2⟩
    · exact Or.inl q
    · subst q; simp
    · subst q; simp
    · subst q; simp
    · subst q; subst q2; simp)
  refine ⟨h1.fr f (fun a k hs => by unfold cTp scr at hs; omega), h2.fr f (by unfold cTp scr; omega) (by unfold cTp scr; omega), hs, h4.fr f (by unfold cTp scr; omega) (by unfold cTp scr; omega) (by unfold cTp scr; omega) (by unfold cTp scr; omega) (by unfold cTp scr; omega) (by unfold cTp scr; omega) (by unfold cTp scr; omega) (by unfold cTp scr; omega), h5.fr f (by unfold cTp scr; omega) (by unfold cTp scr; omega) (fun k => by unfold cTp scr; omega) (fun k => by unfold cTp scr; omega), N, b, R, ?_, h7.fr f np, h8.fr f (fun a k q => nb b a k (by rcases h6 with ⟨z, -⟩ | ⟨z, -⟩ <;> omega) q), h9.fr f nc (fun k => by unfold cTp scr; omega) (fun k => by unfold cTp scr; omega)⟩
  rw [f.2.2 11 0 (by unfold cTp scr; omega), f.2.2 0 8 (by unfold cTp scr; omega)]
  exact h6
theorem op_cost {σ : aSt} (h : Inv σ) (p1 p2 : Int32) : Op (f_X11_cost p1 p2) (f_X12_cost p1 p2) σ := by
  have bad : ¬ (0 ≤ p1 ∧ p1 ≤ 1) ∨ ¬ (0 ≤ p2 ∧ p2 ≤ 100000) → Op (f_X11_cost p1 p2) (f_X12_cost p1 p2) σ := by
    intro hb
    refine ⟨-1000001, σ, sI σ 57 0 0, ?_, ?_, h.thr 0⟩
    · unfold f_X11_cost f_X11_cost_19
      rw [s_within]
      simp only [Option.bind_some, bI_0, decide_eq_false_iff_not]
      by_cases c1 : 0 ≤ p1 ∧ p1 ≤ 1
      · rw [if_neg (not_not_intro c1), s_within]
        simp only [Option.bind_some, bI_0, decide_eq_false_iff_not]
        rw [if_pos (hb.resolve_left (not_not_intro c1))]
      · rw [if_pos c1]
    · unfold f_X12_cost f_X12_cost_27
      rw [s_in 0 1 0 1 rfl rfl]
      simp only [Option.bind_some, bI_0, decide_eq_false_iff_not]
      by_cases c1 : 0 ≤ p1 ∧ p1 ≤ 1
      · rw [if_neg (not_not_intro c1), s_in 0 100000 0 100000 rfl rfl]
        simp only [Option.bind_some, bI_0, decide_eq_false_iff_not]
        rw [if_pos (hb.resolve_left (not_not_intro c1))]
      · rw [if_pos c1]
  by_cases c1 : 0 ≤ p1 ∧ p1 ≤ 1
  case neg => exact bad (Or.inl c1)
  by_cases c2 : 0 ≤ p2 ∧ p2 ≤ 100000
  case neg => exact bad (Or.inr c2)
  obtain ⟨w, hw, rfl⟩ := ix_rng (N := 2) rfl rfl c1.1 c1.2
  obtain ⟨v, hv, rfl⟩ := ix_rng (N := 100001) rfl rfl c2.1 c2.2
  obtain ⟨s1, s2, s3, s4, s5, s6⟩ := h.2.2.2.1
  have xs : f_X11_cost (nI w) (nI v) σ = if nI w = 0 then some (gI σ 26 0, sI σ 26 0 (nI v)) else some (gI σ 26 1, sI σ 26 1 (nI v)) := by
    unfold f_X11_cost f_X11_cost_43 f_X11_cost_67
    rw [s_within]
    simp only [Option.bind_some, bI_0, decide_eq_false_iff_not]
    rw [if_neg (not_not_intro c1), s_within]
    simp only [Option.bind_some, bI_0, decide_eq_false_iff_not]
    rw [if_neg (not_not_intro c2)]
    by_cases d : nI w = 0
    · rw [if_pos d, if_pos d, if_pos d]
    · rw [if_neg d, if_neg d, if_neg d]
  have ms : ∀ τ, f_X12_cost (nI w) (nI v) τ = some (gI τ 80 w, sI (sI τ 57 0 0) 80 w (nI v)) := by
    intro τ
    unfold f_X12_cost
    rw [s_in 0 1 0 1 rfl rfl]
    simp only [Option.bind_some, bI_0, decide_eq_false_iff_not]
    rw [if_neg (not_not_intro c1), s_in 0 100000 0 100000 rfl rfl]
    simp only [Option.bind_some, bI_0, decide_eq_false_iff_not]
    rw [if_neg (not_not_intro c2), if_pos (ix_in hw (by omega)), if_pos (ix_in hw (by omega)), ix_cl (by omega), thr_o 0 (Or.inl (by omega))]
  rcases (by omega : w = 0 ∨ w = 1) with rfl | rfl
  · rw [if_pos (show nI 0 = 0 from rfl)] at xs
    refine ⟨gI σ 26 0, sI σ 26 0 (nI v), _, xs, by rw [ms, gI_other (Or.inl (by omega)), s3], ?_⟩
    refine h.sm (((Fr.sI Fr.rf (by simp [cSm])).sI (by simp [cSm, scr])).sI (by simp [cSm])) ?_
    unfold pSmall
    simp only [gI_sI, if_pos, if_neg, show ¬ (0 = 80) by omega, show ¬ (0 = 57) by omega, show ¬ (0 = 26) by omega, show ¬ (57 = 80) by omega, show ¬ (57 = 26) by omega, show ¬ (1 = 0) by omega, show ¬ (31 = 0) by omega, show ¬ (26 = 80) by omega, show ¬ (26 = 57) by omega, show ¬ (80 = 57) by omega, show ¬ (80 = 26) by omega, if_true, if_false]
    exact ⟨s1, s2, trivial, s4, ⟨v, by omega, rfl⟩, s6⟩
  · rw [if_neg (show ¬ nI 1 = 0 by decide)] at xs
    refine ⟨gI σ 26 1, sI σ 26 1 (nI v), _, xs, by rw [ms, gI_other (Or.inl (by omega)), s4], ?_⟩
    refine h.sm (((Fr.sI Fr.rf (by simp [cSm])).sI (by simp [cSm, scr])).sI (by simp [cSm])) ?_
    unfold pSmall
    simp only [gI_sI, if_pos, if_neg, show ¬ (0 = 80) by omega, show ¬ (0 = 57) by omega, show ¬ (0 = 26) by omega, show ¬ (57 = 80) by omega, show ¬ (57 = 26) by omega, show ¬ (1 = 0) by omega, show ¬ (0 = 1) by omega, show ¬ (31 = 0) by omega, show ¬ (26 = 80) by omega, show ¬ (26 = 57) by omega, show ¬ (80 = 57) by omega, show ¬ (80 = 26) by omega, if_true, if_false]
    exact ⟨s1, s2, s3, trivial, s5, ⟨v, by omega, rfl⟩⟩
theorem op_trace {σ : aSt} (h : Inv σ) (p1 : Int32) : Op (f_X11_trace p1) (f_X12_trace p1) σ := by
  obtain ⟨n, hn, q2, q3, q4⟩ := h.2.2.2.2.1
  have en : (nI n).toInt = n := pi_nI (by omega)
  have e1 : (nI n - 1).toInt = n - 1 := by
    have : (1 : Int32).toInt = 1 := rfl
    rw [pi_sub, en] <;> omega
  have e0 : (0 : Int32).toInt = 0 := rfl
  have xs : f_X11_trace p1 σ = if 0 ≤ p1 ∧ p1 ≤ nI n - 1 then (if inB p1 16 then some (gI σ 33 p1.toNatClampNeg, σ) else none) else some (-1000000, σ) := by
    unfold f_X11_trace f_X11_trace_31
    rw [q2, s_within]
    simp only [Option.bind_some, bI_0, decide_eq_false_iff_not]
    by_cases c : 0 ≤ p1 ∧ p1 ≤ nI n - 1
    · rw [if_neg (not_not_intro c), if_pos c]
    · rw [if_pos c, if_neg c]
  have ms : f_X12_trace p1 σ = if 0 ≤ p1 ∧ p1 ≤ nI n - 1 then (if inB p1 16 then some (gI (sI σ 57 0 0) 83 p1.toNatClampNeg, sI σ 57 0 0) else none) else some (-1000000, sI σ 57 0 0) := by
    unfold f_X12_trace f_X12_trace_32
    rw [thr_o 0 (Or.inr (by omega)), q3, s_in 0 (nI n - 1).toInt64 0 (nI n - 1) rfl rfl]
    simp only [Option.bind_some, bI_0, decide_eq_false_iff_not]
    by_cases c : 0 ≤ p1 ∧ p1 ≤ nI n - 1
    · rw [if_neg (not_not_intro c), if_pos c]
    · rw [if_pos c, if_neg c]
  by_cases c : 0 ≤ p1 ∧ p1 ≤ nI n - 1
  · have c' := c
    rw [pi_le, pi_le, e1, e0] at c'
    obtain ⟨i, hi, rfl⟩ : ∃ i, i < n ∧ p1 = nI i := ⟨p1.toInt.toNat, by omega, pi_of c'.1⟩
    have ib : inB (nI i) 16 := ix_in (by omega) (by omega)
    refine ⟨gI σ 33 i, σ, sI σ 57 0 0, by rw [xs, if_pos c, if_pos ib, ix_cl (by omega)], ?_, h.thr 0⟩
    rw [ms, if_pos c, if_pos ib, ix_cl (by omega), thr_o 0 (Or.inl (by omega)), q4 i hi]
  · exact ⟨-1000000, σ, sI σ 57 0 0, by rw [xs, if_neg c], by rw [ms, if_neg c], h.thr 0⟩
theorem bk_ok : ∀ b, (b = 12 ∨ b = 34) → aSh b = 8 ∧ aSh (b + 1) = 13 ∧ aSh (b + 2) = 13 ∧ aSh (b + 3) = 13 ∧ aSh (b + 4) = 13 ∧ aSh (b + 5) = 13 ∧ aSh (b + 6) = 13 ∧ aLn (b + 1) = 4 ∧ aLn (b + 2) = 12 ∧ aLn (b + 3) = 12 ∧ aLn (b + 4) = 48 ∧ aLn (b + 5) = 48 ∧ aLn (b + 6) = 48 := by
  intro b hb
  rcases hb with rfl | rfl <;> decide
theorem Inv.bk {σ : aSt} (h : Inv σ) : ∃ N b R, (b = 12 ∨ b = 34) ∧ gR σ 11 0 = some b ∧ gR σ 0 8 = some (46 - b) ∧ pPay σ N ∧ pBook σ b R ∧ pCache σ N R := by
  obtain ⟨-, -, -, -, -, N, b, R, h6, h7, h8, h9⟩ := h
  refine ⟨N, b, R, ?_, ?_, ?_, h7, h8, h9⟩
  · rcases h6 with ⟨q, -, -⟩ | ⟨q, -, -⟩ <;> omega
  · rcases h6 with ⟨q, z, -⟩ | ⟨q, z, -⟩ <;> rw [z, q]
  · rcases h6 with ⟨q, -, z⟩ | ⟨q, -, z⟩ <;> rw [z, q]
theorem op_rule {σ : aSt} (h : Inv σ) (p1 : Int32) : Op (f_X11_rule p1) (f_X12_rule p1) σ := by
  obtain ⟨N, b, R, hb, e1, -, hp, hbk, -⟩ := h.bk
  have hg := h.gn
  obtain ⟨o1, o2, -, -, -, -, -, o8, -⟩ := bk_ok b hb
  obtain ⟨-, -, -, ⟨w, d, l, k, -, -, -, -, -, -, m1, m2, m3, m4, c1, c2, c3, c4⟩, -⟩ := hbk
  have xs : f_X11_rule p1 σ = if 0 ≤ p1 ∧ p1 ≤ 3 then (if inB p1 4 then some (gI σ (b + 1) p1.toNatClampNeg, σ) else none) else some (-1000001, σ) := by
    unfold f_X11_rule
    rw [s_within]
    simp only [Option.bind_some, bI_0, decide_eq_false_iff_not]
    by_cases c : 0 ≤ p1 ∧ p1 ≤ 3
    · rw [if_neg (not_not_intro c), if_pos c, e1, oC_some, if_pos ⟨o1, by omega⟩, if_pos ⟨o2, by omega⟩, o8]
    · rw [if_pos c, if_neg c]
  have ms : f_X12_rule p1 σ = if p1 = 0 then some (nI w, sI σ 57 0 0) else if p1 = 1 then some (nI d, sI σ 57 0 0) else if p1 = 2 then some (nI l, sI σ 57 0 0) else if p1 = 3 then some (nI k, sI σ 57 0 0) else some (-1000001, sI σ 57 0 0) := by
    unfold f_X12_rule f_X12_rule_54
    rw [thr_o 0 (Or.inr (by omega)), thr_o 0 (Or.inr (by omega)), thr_o 0 (Or.inr (by omega)), thr_o 0 (Or.inr (by omega)), m1, m2, m3, m4]
  by_cases c : 0 ≤ p1 ∧ p1 ≤ 3
  · rw [if_pos c] at xs
    obtain ⟨i, hi, rfl⟩ := ix_rng (N := 4) rfl rfl c.1 c.2
    rw [if_pos (ix_in hi (by omega)), ix_cl (by omega)] at xs
    rcases (by omega : i = 0 ∨ i = 1 ∨ i = 2 ∨ i = 3) with rfl | rfl | rfl | rfl
    · exact ⟨nI w, σ, _, by rw [xs, c1], by rw [ms, if_pos (show nI 0 = 0 from rfl)], h.thr 0⟩
    · exact ⟨nI d, σ, _, by rw [xs, c2], by rw [ms, if_neg (show ¬ nI 1 = 0 by decide), if_pos (show nI 1 = 1 from rfl)], h.thr 0⟩
    · exact ⟨nI l, σ, _, by rw [xs, c3], by rw [ms, if_neg (show ¬ nI 2 = 0 by decide), if_neg (show ¬ nI 2 = 1 by decide), if_pos (show nI 2 = 2 from rfl)], h.thr 0⟩
    · exact ⟨nI k, σ, _, by rw [xs, c4], by rw [ms, if_neg (show ¬ nI 3 = 0 by decide), if_neg (show ¬ nI 3 = 1 by decide), if_neg (show ¬ nI 3 = 2 by decide), if_pos (show nI 3 = 3 from rfl)], h.thr 0⟩
  · rw [if_neg c] at xs
    have z : ∀ k : Int32, (0 ≤ k ∧ k ≤ 3) → ¬ p1 = k := fun k hk q => c (q ▸ hk)
    rw [if_neg (z 0 (by decide)), if_neg (z 1 (by decide)), if_neg (z 2 (by decide)), if_neg (z 3 (by decide))] at ms
    exact ⟨-1000001, σ, _, xs, ms, h.thr 0⟩
