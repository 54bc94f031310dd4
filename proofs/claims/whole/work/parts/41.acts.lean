/-! ===== acts ===== -/
def xA (g : Nat → Nat → Int32) (N R n kn : Nat) : Int32 := xAct g (xWt g R (xSet g N R n kn (g 65 n)))
section AC
variable {g : Nat → Nat → Int32} {N R b : Nat}
theorem s_manyWith (hw : gW g N R) (a : Int32) : ∀ (f k : Nat) (τ : aSt), cK g N R b τ → k ≤ N → N < k + f → ∃ τ', f_X2_manyWith_4 f a (fSum (fun i => if xA g N R (xOrd g i) 0 = a then 1 else 0) k) (nI k) τ = some (fSum (fun i => if xA g N R (xOrd g i) 0 = a then 1 else 0) N, τ') ∧ Fr cSl τ τ' ∧ gL τ' = gL τ ∧ cK g N R b τ' := by
  intro f
  induction f with
  | zero => intro k τ _ h1 h2; omega
  | succ f ih =>
    intro k τ hk h1 h2
    have hN := hw.hN
    show ∃ τ', f_X2_manyWith_4_b (f_X2_manyWith_4 f) a (fSum (fun i => if xA g N R (xOrd g i) 0 = a then 1 else 0) k) (nI k) τ = _ ∧ _
    unfold f_X2_manyWith_4_b f_X2_manyWith_44
    rw [hk.1.n2]
    by_cases e : k = N
    · subst e
      rw [if_pos (Int32.le_refl _)]
      exact ⟨τ, rfl, Fr.rf, rfl, hk⟩
    · rw [if_neg (fun q => e (by rw [nI_leI (by omega) (by omega)] at q; omega)), s_inOrd hw hk.1 (show k < N by omega)]
      simp only [Option.bind_some, oC_some]
      obtain ⟨τ1, a1, a2, aL, a3⟩ := s_actOf hw hk (hw.olt k (by omega)) (kn := 0) (by omega)
      rw [show f_X2_actOf (84 + xOrd g k) 0 τ = _ from a1]
      simp only [Option.bind_some]
      obtain ⟨τ2, b1, b2, bL, b3⟩ := ih (k + 1) τ1 a3 (by omega) (by omega)
      refine ⟨τ2, ?_, a2.tr b2, bL.trans aL, b3⟩
      rw [nI_1]
      rw [fSum_s] at b1
      have ea : xAct g (xWt g R (xSet g N R (xOrd g k) 0 (g 65 (xOrd g k)))) = xA g N R (xOrd g k) 0 := rfl
      rw [ea]
      by_cases c : xA g N R (xOrd g k) 0 = a
      · rw [if_pos c]
        rw [if_pos c] at b1
        exact b1
      · rw [if_neg c]
        rw [if_neg c, Int32.add_zero] at b1
        exact b1
theorem s_manyOther (hw : gW g N R) : ∀ (f k : Nat) (τ : aSt), cK g N R b τ → k ≤ N → N < k + f → ∃ τ', f_X2_manyOtherThen_4 f (fSum (fun i => if xA g N R (xOrd g i) 1 = xA g N R (xOrd g i) 0 then 0 else 1) k) (nI k) τ = some (fSum (fun i => if xA g N R (xOrd g i) 1 = xA g N R (xOrd g i) 0 then 0 else 1) N, τ') ∧ Fr cSl τ τ' ∧ gL τ' = gL τ ∧ cK g N R b τ' := by
  intro f
  induction f with
  | zero => intro k τ _ h1 h2; omega
  | succ f ih =>
    intro k τ hk h1 h2
    have hN := hw.hN
    show ∃ τ', f_X2_manyOtherThen_4_b (f_X2_manyOtherThen_4 f) (fSum (fun i => if xA g N R (xOrd g i) 1 = xA g N R (xOrd g i) 0 then 0 else 1) k) (nI k) τ = _ ∧ _
    unfold f_X2_manyOtherThen_4_b f_X2_manyOtherThen_46
    rw [hk.1.n2]
    by_cases e : k = N
    · subst e
      rw [if_pos (Int32.le_refl _)]
      exact ⟨τ, rfl, Fr.rf, rfl, hk⟩
    · rw [if_neg (fun q => e (by rw [nI_leI (by omega) (by omega)] at q; omega)), s_inOrd hw hk.1 (show k < N by omega)]
      simp only [Option.bind_some, oC_some]
      obtain ⟨τ1, a1, a2, aL, a3⟩ := s_actOf hw hk (hw.olt k (by omega)) (kn := 0) (by omega)
      obtain ⟨τ0, c1, c2, cL, c3⟩ := s_actOf hw a3 (hw.olt k (by omega)) (kn := 1) (by omega)
      rw [show f_X2_actOf (84 + xOrd g k) 0 τ = _ from a1]
      simp only [Option.bind_some]
      rw [show f_X2_actOf (84 + xOrd g k) 1 τ1 = _ from c1]
      simp only [Option.bind_some]
      obtain ⟨τ2, b1, b2, bL, b3⟩ := ih (k + 1) τ0 c3 (by omega) (by omega)
      refine ⟨τ2, ?_, a2.tr (c2.tr b2), bL.trans (cL.trans aL), b3⟩
      rw [nI_1]
      rw [fSum_s] at b1
      have ea : ∀ kn, xAct g (xWt g R (xSet g N R (xOrd g k) kn (g 65 (xOrd g k)))) = xA g N R (xOrd g k) kn := fun kn => rfl
      rw [ea, ea]
      by_cases c : xA g N R (xOrd g k) 1 = xA g N R (xOrd g k) 0
      · rw [if_pos c.symm]
        rw [if_pos c, Int32.add_zero] at b1
        exact b1
      · rw [if_neg (fun z => c z.symm)]
        rw [if_neg c] at b1
        exact b1
def xAc (g : Nat → Nat → Int32) (N R j n : Nat) : Int32 := if j = 3 then (if xA g N R n 1 = xA g N R n 0 then 0 else 1) else if xA g N R n 0 = nI (2 - j) then 1 else 0
theorem s_actsM (hw : gW g N R) {j : Nat} (hj : j < 4) : ∀ (f k : Nat) (τ : aSt), Ag g τ → k ≤ N → N < k + f → ∃ τ', f_X12_acts_24 f (nI j) (fSum (xAc g N R j) k) (nI k) τ = some (fSum (xAc g N R j) N, τ') ∧ Fr (fun a _ => a = 69) τ τ' := by
  intro f
  induction f with
  | zero => intro k τ _ h1 h2; omega
  | succ f ih =>
    intro k τ hk h1 h2
    have hN := hw.hN
    show ∃ τ', f_X12_acts_24_b (f_X12_acts_24 f) (nI j) (fSum (xAc g N R j) k) (nI k) τ = _ ∧ _
    unfold f_X12_acts_24_b f_X12_acts_76 f_X12_acts_80 f_X12_acts_81
    rw [hk.c (by omega), hw.n5]
    by_cases e : k = N
    · subst e
      rw [if_pos (Int32.le_refl _)]
      exact ⟨τ, rfl, Fr.rf⟩
    · rw [if_neg (fun q => e (by rw [nI_leI (by omega) (by omega)] at q; omega))]
      obtain ⟨τ1, a1, a2, aL, a3⟩ := s_scoreM hw hk (show k < N by omega) (kn := 0) (by omega)
      rw [show f_X12_scoreOf (nI k) 0 τ = _ from a1]
      simp only [Option.bind_some]
      rw [s_actBy a3]
      simp only [Option.bind_some]
      have ea : ∀ kn, xAct g (xWt g R (xSet g N R k kn (g 65 k))) = xA g N R k kn := fun kn => rfl
      rw [ea, nI_1]
      by_cases d : j = 3
      · subst d
        rw [if_pos (show nI 3 = 3 from rfl)]
        obtain ⟨τ0, c1, c2, cL, c3⟩ := s_scoreM hw a3 (show k < N by omega) (kn := 1) (by omega)
        rw [show f_X12_scoreOf (nI k) 1 τ1 = _ from c1]
        simp only [Option.bind_some]
        rw [s_actBy c3]
        simp only [Option.bind_some]
        rw [ea]
        obtain ⟨τ2, b1, b2⟩ := ih (k + 1) τ0 c3 (by omega) (by omega)
        refine ⟨τ2, ?_, a2.tr (c2.tr b2)⟩
        rw [fSum_s] at b1
        unfold xAc at b1 ⊢
        rw [if_pos rfl] at b1
        by_cases c : xA g N R k 1 = xA g N R k 0
        · rw [if_pos c] at b1 ⊢
          exact b1
        · rw [if_neg c] at b1 ⊢
          exact b1
      · rw [if_neg (show ¬ nI j = 3 from fun z => d (nI_inj (by omega) (by omega) (show nI j = nI 3 from z)))]
        obtain ⟨τ2, b1, b2⟩ := ih (k + 1) τ1 a3 (by omega) (by omega)
        refine ⟨τ2, ?_, a2.tr b2⟩
        rw [fSum_s] at b1
        unfold xAc at b1 ⊢
        rw [if_neg d] at b1
        rw [show (2 : Int32) - nI j = nI (2 - j) by
          rcases (by omega : j = 0 ∨ j = 1 ∨ j = 2) with q | q | q <;> subst q <;> rfl]
        by_cases c : xA g N R k 0 = nI (2 - j)
        · rw [if_pos c] at b1 ⊢
          exact b1
        · rw [if_neg c] at b1 ⊢
          exact b1
end AC
theorem op_acts {σ : aSt} (h : Inv σ) (p1 : Int32) : Op (f_X11_acts p1) (f_X12_acts p1) σ := by
  obtain ⟨N, b, R, hw, hc, hca, hp, -⟩ := h.data
  have hA := Ag.self σ
  have hN := hw.hN
  by_cases c : 0 ≤ p1 ∧ p1 ≤ 3
  case neg =>
    refine ⟨-1000001, σ, sI σ 57 0 0, ?_, ?_, h.thr 0⟩
    · unfold f_X11_acts
      rw [if_neg (fun z => c (by rw [z]; decide)), if_neg (fun z => c (by rw [z]; decide)), if_neg (fun z => c (by rw [z]; decide)), if_neg (fun z => c (by rw [z]; decide))]
    · unfold f_X12_acts
      rw [s_in 0 3 0 3 rfl rfl]
      simp only [Option.bind_some, bI_0, decide_eq_false_iff_not]
      rw [if_pos c]
  have c' := c
  obtain ⟨j, hj, rfl⟩ := ix_rng (N := 4) rfl rfl c'.1 c'.2
  have em : ∀ σ1, Ag (vw σ) σ1 → ∃ σ2, f_X12_acts (nI j) σ1 = some (fSum (xAc (vw σ) N R j) N, σ2) ∧ Fr (fun a _ => a = 69) (sI σ1 57 0 0) σ2 := by
    intro σ1 hA1
    obtain ⟨σ2, b1, b2⟩ := s_actsM hw hj aN 0 _ hA1.th (by omega) (by show N < 0 + 1000000; omega)
    refine ⟨σ2, ?_, b2⟩
    unfold f_X12_acts
    rw [s_in 0 3 0 3 rfl rfl]
    simp only [Option.bind_some, bI_0, decide_eq_false_iff_not]
    rw [if_neg (not_not_intro c)]
    exact b1
  have ec : ∃ σ1, f_X11_acts (nI j) σ = some (fSum (xAc (vw σ) N R j) N, σ1) ∧ Fr cSl σ σ1 ∧ cK (vw σ) N R b σ1 := by
    by_cases d : j = 3
    · subst d
      obtain ⟨σ1, a1, a2, -, a3⟩ := s_manyOther hw aN 0 σ ⟨hc, pCa.of hca⟩ (by omega) (by show N < 0 + 1000000; omega)
      refine ⟨σ1, ?_, a2, a3⟩
      rw [show fSum (xAc (vw σ) N R 3) N = fSum (fun i => xAc (vw σ) N R 3 (xOrd (vw σ) i)) N from (fSum_perm hw.olt hw.oinj _).symm]
      unfold f_X11_acts f_X2_manyOtherThen
      rw [if_neg (by decide), if_neg (by decide), if_neg (by decide), if_pos (by decide), show f_X2_manyOtherThen_4 aN 0 0 σ = _ from a1]
      rfl
    · obtain ⟨σ1, a1, a2, -, a3⟩ := s_manyWith hw (nI (2 - j)) aN 0 σ ⟨hc, pCa.of hca⟩ (by omega) (by show N < 0 + 1000000; omega)
      refine ⟨σ1, ?_, a2, a3⟩
      rw [show fSum (xAc (vw σ) N R j) N = fSum (fun i => xAc (vw σ) N R j (xOrd (vw σ) i)) N from (fSum_perm hw.olt hw.oinj _).symm]
      have ef : (fun i => xAc (vw σ) N R j (xOrd (vw σ) i)) = (fun i => if xA (vw σ) N R (xOrd (vw σ) i) 0 = nI (2 - j) then 1 else 0) := by
        funext i
        unfold xAc
        rw [if_neg d]
      rw [ef]
      unfold f_X11_acts f_X2_manyWith
      rcases (by omega : j = 0 ∨ j = 1 ∨ j = 2) with q | q | q <;> subst q
      · rw [if_pos (by decide), show f_X2_manyWith_4 aN 2 0 0 σ = _ from a1]
        rfl
      · rw [if_neg (by decide), if_pos (by decide), show f_X2_manyWith_4 aN 1 0 0 σ = _ from a1]
        rfl
      · rw [if_neg (by decide), if_neg (by decide), if_pos (by decide), show f_X2_manyWith_4 aN 0 0 0 σ = _ from a1]
        rfl
  obtain ⟨σ1, a1, a2, a3⟩ := ec
  obtain ⟨σ2, b1, b2⟩ := em σ1 (hA.fr a2 (fun a k q => cSl_pers q))
  exact ⟨_, σ1, σ2, a1, b1, ((h.ca hw (frSl a2) a3.2).thr 0).fr (fr69 b2)⟩
