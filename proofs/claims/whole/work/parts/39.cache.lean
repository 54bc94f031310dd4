/-! ===== sets and scores that the class keeps ===== -/
def pCa (g : Nat → Nat → Int32) (τ : aSt) (N R : Nat) : Prop := ∀ n kn, n < N → kn < 2 → gI τ 23 (120 * kn + n) = -1 ∨ (gI τ 23 (120 * kn + n) = xSet g N R n kn (g 65 n) ∧ gI τ 24 (120 * kn + n) = xWt g R (xSet g N R n kn (g 65 n)))
theorem pCa.of {σ : aSt} {N R : Nat} (h : pCache σ N R) : pCa (vw σ) σ N R := fun n kn hn hk => by
  rw [vw_row (a := 65) n (by omega)]
  exact h n kn hn hk
theorem pCa.fr {g : Nat → Nat → Int32} {C : Nat → Nat → Prop} {τ τ' : aSt} {N R : Nat} (h : pCa g τ N R) (f : Fr C τ τ') (h1 : ∀ a k, C a k → a ≠ 23 ∧ a ≠ 24) : pCa g τ' N R := fun n kn hn hk => by
  rw [f.2.1 23 _ (fun q => (h1 _ _ q).1 rfl), f.2.1 24 _ (fun q => (h1 _ _ q).2 rfl)]
  exact h n kn hn hk
/-- what a call may write that only asks -/
def cAsk (a k : Nat) : Prop := scr a k ∨ a = 23 ∨ a = 24
theorem Inv.ca {σ σ' : aSt} {N R : Nat} (h : Inv σ) (hw : gW (vw σ) N R) (f : Fr cAsk σ σ') (hca : pCa (vw σ) σ' N R) : Inv σ' := by
  obtain ⟨h1, h2, h3, h4, h5, N', b, R', h6, h7, h8, h9⟩ := h
  have eN : N' = N := by
    have e1 := h7.2.2.1
    have e2 := hw.n5
    rw [vw_57 (by omega), e1] at e2
    exact nI_inj (by have := h7.1; omega) (by have := hw.hN; omega) e2
  have eR : R' = R := by
    have e1 := h8.2.1
    have e2 := hw.n20
    rw [vw_57 (by omega), e1] at e2
    exact nI_inj (by have := h8.1; omega) (by have := hw.hR; omega) e2
  subst eN
  subst eR
  have nb : ∀ a k, cAsk a k → ¬ cBook b a k := by
    intro a k hs
    unfold cAsk scr at hs
    unfold cBook
    rcases h6 with ⟨q, -, -⟩ | ⟨q, -, -⟩ <;> omega
  have np : ∀ a k, cAsk a k → ¬ cPay a k := by
    intro a k hs
    unfold cAsk scr at hs
    unfold cPay
    omega
  have npe : ∀ a k, cAsk a k → pers a k = false := by
    intro a k hs
    rcases hs with q | q | q
    · exact scr_pers q
    · subst q; simp [pers]
    · subst q; simp [pers]
  refine ⟨h1.fr f (fun a k hs => by unfold cAsk scr at hs; omega), h2.fr f (by unfold cAsk scr; omega) (by unfold cAsk scr; omega), h3.fr f (by unfold cAsk scr; omega) (by unfold cAsk scr; omega) (fun k => by unfold cAsk scr; omega) (fun k => by unfold cAsk scr; omega), h4.fr f (by unfold cAsk scr; omega) (by unfold cAsk scr; omega) (by unfold cAsk scr; omega) (by unfold cAsk scr; omega) (by unfold cAsk scr; omega) (by unfold cAsk scr; omega) (by unfold cAsk scr; omega) (by unfold cAsk scr; omega), h5.fr f (by unfold cAsk scr; omega) (by unfold cAsk scr; omega) (fun k => by unfold cAsk scr; omega) (fun k => by unfold cAsk scr; omega), N', b, R', ?_, h7.fr f np, h8.fr f nb, fun n kn hn hk => ?_⟩
  · rw [f.2.2 11 0 (by unfold cAsk scr; omega), f.2.2 0 8 (by unfold cAsk scr; omega)]
    exact h6
  · rw [vw_fr f npe]
    have e65 : gI σ' 65 n = vw σ 65 n := by rw [f.2.1 65 n (by unfold cAsk scr; omega), vw_row n (by omega)]
    rw [e65]
    exact hca n kn hn hk
section CA
variable {g : Nat → Nat → Int32} {N R b : Nat} {τ : aSt}
def cK (g : Nat → Nat → Int32) (N R b : Nat) (τ : aSt) : Prop := cG g N R b τ ∧ pCa g τ N R
/-- the class's scratch, and what it keeps -/
def cSl (a _k : Nat) : Prop := 20 ≤ a ∧ a ≤ 24
theorem cSl_ask {a k : Nat} (h : cSl a k) : cAsk a k := by
  unfold cSl at h
  unfold cAsk scr
  rcases (by omega : a = 20 ∨ a = 21 ∨ a = 22 ∨ a = 23 ∨ a = 24) with q | q | q | q | q <;> subst q <;> simp
theorem s_slot (hw : gW g N R) (h : cK g N R b τ) {n kn : Nat} (hn : n < N) (hk : kn < 2) : ∃ τ', f_X2_slotOf (84 + n) (nI kn) τ = some (nI (120 * kn + n), τ') ∧ Fr cSl τ τ' ∧ gL τ' = gL τ ∧ cK g N R b τ' ∧ gI τ' 23 (120 * kn + n) = xSet g N R n kn (g 65 n) ∧ gI τ' 24 (120 * kn + n) = xWt g R (xSet g N R n kn (g 65 n)) := by
  obtain ⟨hc, hca⟩ := h
  have hN := hw.hN
  obtain ⟨-, -, -, -, -, -, p6⟩ := hc.pay hn
  have hs : 120 * kn + n < 240 := by omega
  have ib : inB (nI (120 * kn + n)) 240 := ix_in hs (by omega)
  have cl : (nI (120 * kn + n)).toNatClampNeg = 120 * kn + n := ix_cl (by omega)
  have e0 : f_X2_slotOf (84 + n) (nI kn) τ = f_X2_slotOf_18 (84 + n) (nI kn) (nI (120 * kn + n)) τ := by
    unfold f_X2_slotOf
    rw [if_pos (hc.ok hn), if_pos (hc.ok hn), p6]
    rcases (by omega : kn = 0 ∨ kn = 1) with q | q
    · subst q
      rw [if_pos (show nI 0 = 0 from rfl)]
      simp
    · subst q
      rw [if_neg (show ¬ nI 1 = 0 by decide), show (120 : Int32) = nI 120 from rfl, nI_add]
  have wn : 0 ≤ nI (120 * kn + n) ∧ nI (120 * kn + n) ≤ Int32.ofNat (aLn 23) - 1 := by
    rw [show (Int32.ofNat (aLn 23) - 1 : Int32) = nI 239 from rfl, nI_leI (by omega) (by omega)]
    exact ⟨nI_ge0 (by omega), by omega⟩
  rw [e0]
  unfold f_X2_slotOf_18 f_X2_slotOf_102
  rw [s_within]
  simp only [Option.bind_some, bI_0, decide_eq_false_iff_not]
  rw [if_neg (not_not_intro wn), if_pos ib]
  generalize hS : 120 * kn + n = S at *
  by_cases c : gI τ 23 S = -1
  · have c' : gI τ 23 (nI S).toNatClampNeg = -1 := by rw [cl]; exact c
    rw [if_pos c']
    obtain ⟨τ1, a1, a2, aL, a3, -⟩ := s_gather hw hc hn hk
    have hc1 : cG g N R b τ1 := hc.fr a2 (fun a k q => cC_row hc.hb (by omega))
    rw [hc.r11, a1]
    simp only [Option.bind_some]
    rw [hc1.r11]
    simp only [oC_some]
    rw [if_pos hc1.okb, s_thatHold hw hc1 a3]
    simp only [Option.bind_some]
    have es : xHold g R (xFeat g N n kn (g 65 n)) = xSet g N R n kn (g 65 n) := rfl
    simp only [if_pos ib, cl, es]
    generalize hX : xSet g N R n kn (g 65 n) = X at *
    have hc2 : cG g N R b (sI τ1 23 S X) := hc1.s2 (by omega)
    rw [hc2.r11]
    simp only [oC_some]
    rw [if_pos hc2.okb, gI_same, s_weigh hw hc2]
    simp only [Option.bind_some]
    have hfr : Fr cSl τ (sI (sI τ1 23 S X) 24 S (xWt g R X)) := by
      refine Fr.sI (Fr.sI (a2.mono (fun a k q => ?_)) ?_) ?_
      · unfold cSl; omega
      · unfold cSl; omega
      · unfold cSl; omega
    refine ⟨sI (sI τ1 23 S X) 24 S (xWt g R X), rfl, hfr, aL, ⟨hc2.s2 (by omega), fun m kn' hm hk' => ?_⟩, ?_, ?_⟩
    · by_cases z : 120 * kn' + m = S
      · have z1 : kn' = kn := by omega
        have z2 : m = n := by omega
        rw [z, gI_other (Or.inl (by omega)), gI_same, gI_same, z1, z2, hX]
        exact Or.inr ⟨rfl, rfl⟩
      · rw [gI_other (Or.inl (by omega)), gI_other (Or.inr z), gI_other (Or.inr z), gI_other (Or.inl (by omega)), a2.2.1 23 _ (by omega), a2.2.1 24 _ (by omega)]
        exact hca m kn' hm hk'
    · rw [gI_other (Or.inl (by omega)), gI_same]
    · rw [gI_same]
  · have c' : ¬ gI τ 23 (nI S).toNatClampNeg = -1 := by rw [cl]; exact c
    rw [if_neg c']
    refine ⟨τ, rfl, Fr.rf, rfl, ⟨hc, hca⟩, ?_⟩
    rcases hca n kn hn hk with q | q
    · rw [hS] at q
      exact absurd q c
    · rw [hS] at q
      exact q
theorem s_heldBy (hw : gW g N R) (h : cK g N R b τ) {n kn : Nat} (hn : n < N) (hk : kn < 2) : ∃ τ', f_X2_heldBy (84 + n) (nI kn) τ = some (xSet g N R n kn (g 65 n), τ') ∧ Fr cSl τ τ' ∧ gL τ' = gL τ ∧ cK g N R b τ' := by
  obtain ⟨τ1, a1, a2, aL, a3, a4, a5⟩ := s_slot hw h hn hk
  have hN := hw.hN
  refine ⟨τ1, ?_, a2, aL, a3⟩
  unfold f_X2_heldBy
  rw [a1]
  simp only [Option.bind_some]
  rw [if_pos (ix_in (by omega) (by omega)), ix_cl (by omega), a4]
theorem s_scoreOf (hw : gW g N R) (h : cK g N R b τ) {n kn : Nat} (hn : n < N) (hk : kn < 2) : ∃ τ', f_X2_scoreOf (84 + n) (nI kn) τ = some (xWt g R (xSet g N R n kn (g 65 n)), τ') ∧ Fr cSl τ τ' ∧ gL τ' = gL τ ∧ cK g N R b τ' := by
  obtain ⟨τ1, a1, a2, aL, a3, a4, a5⟩ := s_slot hw h hn hk
  have hN := hw.hN
  refine ⟨τ1, ?_, a2, aL, a3⟩
  unfold f_X2_scoreOf
  rw [a1]
  simp only [Option.bind_some]
  rw [if_pos (ix_in (by omega) (by omega)), ix_cl (by omega), a5]
theorem s_actOf (hw : gW g N R) (h : cK g N R b τ) {n kn : Nat} (hn : n < N) (hk : kn < 2) : ∃ τ', f_X2_actOf (84 + n) (nI kn) τ = some (xAct g (xWt g R (xSet g N R n kn (g 65 n))), τ') ∧ Fr cSl τ τ' ∧ gL τ' = gL τ ∧ cK g N R b τ' := by
  obtain ⟨τ1, a1, a2, aL, a3, a4, a5⟩ := s_slot hw h hn hk
  have hN := hw.hN
  refine ⟨τ1, ?_, a2, aL, a3⟩
  unfold f_X2_actOf
  rw [a1]
  simp only [Option.bind_some]
  rw [if_pos (ix_in (by omega) (by omega)), h.1.r11]
  simp only [oC_some]
  rw [if_pos a3.1.okb, ix_cl (by omega), a5, s_actAt a3.1]
  rfl
/-! the reference's -/
theorem s_setOf (hw : gW g N R) (h : Ag g τ) {n kn : Nat} (hn : n < N) (hk : kn < 2) (am : Int32) : ∃ τ', f_X12_setOf (nI n) (nI kn) am τ = some (xSet g N R n kn am, τ') ∧ Fr (fun a _ => a = 69) τ τ' ∧ gL τ' = gL τ ∧ Ag g τ' := by
  obtain ⟨τ1, a1, a2, aL, a3⟩ := s_features hw h hn hk am
  have hA : Ag g τ1 := h.fr2 a2 (fun a k q => by rw [q]; exact scr69)
  refine ⟨τ1, ?_, a2, aL, hA⟩
  unfold f_X12_setOf
  rw [a1]
  simp only [Option.bind_some]
  rw [s_holding hw hA a3]
  rfl
theorem s_scoreM (hw : gW g N R) (h : Ag g τ) {n kn : Nat} (hn : n < N) (hk : kn < 2) : ∃ τ', f_X12_scoreOf (nI n) (nI kn) τ = some (xWt g R (xSet g N R n kn (g 65 n)), τ') ∧ Fr (fun a _ => a = 69) τ τ' ∧ gL τ' = gL τ ∧ Ag g τ' := by
  have hN := hw.hN
  obtain ⟨τ1, a1, a2, aL, a3⟩ := s_setOf hw h hn hk (g 65 n)
  refine ⟨τ1, ?_, a2, aL, a3⟩
  unfold f_X12_scoreOf
  rw [if_pos (ix_in (by omega) (by omega)), ix_cl (by omega), h.row n (by omega), a1]
  simp only [Option.bind_some]
  rw [s_weightOf hw a3]
  rfl
end CA
