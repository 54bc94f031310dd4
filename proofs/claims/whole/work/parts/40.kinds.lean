/-! ===== would, kind, as ===== -/
def xKind (g : Nat → Nat → Int32) (N R n : Nat) (vd : Int32) : Int32 := if vd = 0 then 3 else if xAct g (xWt g R (xSet g N R n 0 (g 65 n))) = 2 then 2 else if xAct g (xWt g R (xSet g N R n 0 (g 65 n))) = 1 then 1 else 0
section KI
variable {g : Nat → Nat → Int32} {N R b : Nat} {τ : aSt}
theorem s_kind (hw : gW g N R) (h : cK g N R b τ) {n : Nat} (hn : n < N) {vd : Int32} (hv : gI τ (84 + n) 7 = vd) : ∃ τ', f_X2_kindOf (84 + n) τ = some (xKind g N R n vd, τ') ∧ Fr cSl τ τ' ∧ gL τ' = gL τ ∧ cK g N R b τ' := by
  unfold f_X2_kindOf xKind
  rw [if_pos (h.1.ok hn), hv]
  by_cases c : vd = 0
  · rw [if_pos c, if_pos c]
    exact ⟨τ, rfl, Fr.rf, rfl, h⟩
  · rw [if_neg c, if_neg c]
    obtain ⟨τ1, a1, a2, aL, a3⟩ := s_actOf hw h hn (kn := 0) (by omega)
    refine ⟨τ1, ?_, a2, aL, a3⟩
    rw [show (0 : Int32) = nI 0 from rfl, a1]
    simp only [Option.bind_some]
    generalize xAct g (xWt g R (xSet g N R n 0 (g 65 n))) = A
    by_cases c2 : A = 2
    · rw [if_pos c2, if_pos c2]
      rfl
    · rw [if_neg c2, if_neg c2]
      by_cases c1 : A = 1
      · rw [if_pos c1, if_pos c1]
        rfl
      · rw [if_neg c1, if_neg c1]
        rfl
theorem s_kindM (hw : gW g N R) (h : Ag g τ) {n : Nat} (hn : n < N) {vd : Int32} (hv : gI τ 67 n = vd) : ∃ τ', f_X12_kindOf (nI n) τ = some (xKind g N R n vd, τ') ∧ Fr (fun a _ => a = 69) τ τ' ∧ gL τ' = gL τ ∧ Ag g τ' := by
  have hN := hw.hN
  obtain ⟨τ1, a1, a2, aL, a3⟩ := s_scoreM hw h hn (kn := 0) (by omega)
  refine ⟨τ1, ?_, a2, aL, a3⟩
  unfold f_X12_kindOf f_X12_kindOf_43 xKind
  rw [show f_X12_scoreOf (nI n) 0 τ = _ from a1]
  simp only [Option.bind_some]
  rw [s_actBy a3]
  simp only [Option.bind_some]
  rw [if_pos (ix_in (by omega) (by omega)), ix_cl (by omega), a2.2.1 67 n (by omega), hv]
  generalize xAct g (xWt g R (xSet g N R n 0 (g 65 n))) = A
  by_cases c : vd = 0
  · rw [if_pos c, if_pos c]
  · rw [if_neg c, if_neg c]
    by_cases c2 : A = 2
    · rw [if_pos c2, if_pos c2]
    · rw [if_neg c2, if_neg c2]
      by_cases c1 : A = 1
      · rw [if_pos c1, if_pos c1]
      · rw [if_neg c1, if_neg c1]
end KI
theorem fr69 {τ τ' : aSt} (f : Fr (fun a _ => a = 69) τ τ') : Fr scr τ τ' := f.mono (fun a k q => by rw [q]; exact scr69)
theorem cSl_pers {a k : Nat} (h : cSl a k) : pers a k = false := by
  unfold cSl at h
  unfold pers
  simp only [Bool.or_eq_false_iff, Bool.and_eq_false_iff, decide_eq_false_iff_not]
  omega
theorem frSl {σ σ' : aSt} (f : Fr cSl σ σ') : Fr cAsk σ σ' := f.mono (fun a k q => cSl_ask q)
theorem op_would {σ : aSt} (h : Inv σ) (p1 p2 : Int32) : Op (f_X11_would p1 p2) (f_X12_would p1 p2) σ := by
  obtain ⟨N, b, R, hw, hc, hca, hp, hl⟩ := h.look p1
  have hA := Ag.self σ
  rcases hl with ⟨x1, x2⟩ | ⟨n, hn, x0, x1, x2⟩
  · refine ⟨-1000001, σ, sI σ 57 0 0, ?_, ?_, h.thr 0⟩
    · unfold f_X11_would f_X11_would_23
      rw [x1]
      rfl
    · unfold f_X12_would f_X12_would_29 f_X12_would_49
      rw [x2 _ hA.th]
      rfl
  · have hN := hw.hN
    have hne : ¬ nI n = -1000000 := nI_noNone (by omega)
    by_cases c3 : 1 ≤ p2 ∧ p2 ≤ 100000
    case neg =>
      refine ⟨-1000001, σ, sI σ 57 0 0, ?_, ?_, h.thr 0⟩
      · unfold f_X11_would f_X11_would_23
        rw [x1]
        simp only [Option.bind_some, oC_some]
        rw [s_within]
        simp only [Option.bind_some, bI_0, decide_eq_false_iff_not]
        rw [if_pos c3]
      · unfold f_X12_would f_X12_would_29 f_X12_would_49
        rw [x2 _ hA.th]
        simp only [Option.bind_some]
        rw [if_neg hne, s_in 1 100000 1 100000 rfl rfl]
        simp only [Option.bind_some, bI_0, decide_eq_false_iff_not]
        rw [if_pos c3]
    obtain ⟨σ1, a1, a2, -, a3, a4⟩ := s_gather hw hc hn (kn := 0) (by omega)
    have hc1 : cG (vw σ) N R b σ1 := hc.fr a2 (fun a k q => cC_row hc.hb (by omega))
    generalize eσ2 : sI (sI σ1 21 0 p2) 21 7 (p2 * 100 / (xProf (vw σ) N n 0 + 1)) = σ2
    have f2 : Fr (fun a _ => a = 20 ∨ a = 21 ∨ a = 22) σ σ2 := by
      rw [← eσ2]
      exact (a2.sI (Or.inr (Or.inl rfl))).sI (Or.inr (Or.inl rfl))
    have hc2 : cG (vw σ) N R b σ2 := hc.fr f2 (fun a k q => cC_row hc.hb (by omega))
    have hv : ∀ k, k < 10 → gI σ2 21 k = xFeat (vw σ) N n 0 p2 k := by
      intro k hk
      rw [← eσ2]
      by_cases k7 : k = 7
      · subst k7
        rw [gI_same]
        rfl
      · rw [gI_other (Or.inr k7)]
        by_cases k0 : k = 0
        · subst k0
          rw [gI_same]
          rfl
        · rw [gI_other (Or.inr k0), a3 k hk]
          unfold xFeat
          rw [if_neg k0, if_neg k0]
          simp only [if_neg k7]
    have hA2 : Ag (vw σ) σ2 := hA.fr2 f2 (fun a k q => scr20 q)
    obtain ⟨σ3, b1, b2, -, b3⟩ := s_setOf hw hA2.th hn (kn := 0) (by omega) p2
    refine ⟨xAct (vw σ) (xWt (vw σ) R (xSet (vw σ) N R n 0 p2)), σ2, σ3, ?_, ?_, ?_⟩
    · unfold f_X11_would f_X2_actIf f_X2_rowOf
      rw [x1]
      simp only [Option.bind_some, oC_some]
      rw [s_within]
      simp only [Option.bind_some, bI_0, decide_eq_false_iff_not]
      rw [if_neg (not_not_intro c3), hc.r11, show f_X7_gather (84 + n) 0 (some b) σ = _ from a1]
      simp only [Option.bind_some]
      rw [s_take hw (by rw [hc1.gn]; omega) a4, eσ2]
      simp only [Option.bind_some]
      rw [hc2.r11]
      simp only [oC_some]
      rw [if_pos hc2.okb, s_thatHold hw hc2 hv]
      simp only [Option.bind_some]
      rw [if_pos hc2.okb, s_weigh hw hc2]
      simp only [Option.bind_some]
      rw [if_pos hc2.okb, s_actAt hc2]
      rfl
    · unfold f_X12_would f_X12_would_49
      rw [x2 _ hA2.th]
      simp only [Option.bind_some]
      rw [if_neg hne, s_in 1 100000 1 100000 rfl rfl]
      simp only [Option.bind_some, bI_0, decide_eq_false_iff_not]
      rw [if_neg (not_not_intro c3), show f_X12_setOf (nI n) 0 p2 _ = _ from b1]
      simp only [Option.bind_some]
      rw [s_weightOf hw b3]
      simp only [Option.bind_some]
      rw [s_actBy b3]
      rfl
    · exact ((h.fr (f2.mono (fun a k q => scr20 q))).thr 0).fr (fr69 b2)
theorem op_kind {σ : aSt} (h : Inv σ) (p1 : Int32) : Op (f_X11_kind p1) (f_X12_kind p1) σ := by
  obtain ⟨N, b, R, hw, hc, hca, hp, hl⟩ := h.look p1
  have hA := Ag.self σ
  rcases hl with ⟨x1, x2⟩ | ⟨n, hn, x0, x1, x2⟩
  · refine ⟨-1000001, σ, sI σ 57 0 0, ?_, ?_, h.thr 0⟩
    · unfold f_X11_kind f_X11_kind_26
      rw [x1]
      rfl
    · unfold f_X12_kind f_X12_kind_27
      rw [x2 _ hA.th]
      rfl
  · have hN := hw.hN
    have hne : ¬ nI n = -1000000 := nI_noNone (by omega)
    obtain ⟨-, -, -, -, -, -, -, e7⟩ := hp.2.2.2.2.2.1 n hn
    obtain ⟨σ1, a1, a2, -, a3⟩ := s_kind hw ⟨hc, pCa.of hca⟩ hn e7
    have hA1 : Ag (vw σ) σ1 := hA.fr a2 (fun a k q => cSl_pers q)
    have e67 : gI (sI σ1 57 0 0) 67 n = gI σ 67 n := by rw [gI_other (Or.inl (by omega)), a2.2.1 67 n (by unfold cSl; omega)]
    obtain ⟨σ2, b1, b2, -, b3⟩ := s_kindM hw hA1.th hn e67
    refine ⟨xKind (vw σ) N R n (gI σ 67 n), σ1, σ2, ?_, ?_, ?_⟩
    · unfold f_X11_kind f_X11_kind_26
      rw [x1]
      simp only [Option.bind_some, oC_some]
      rw [a1]
      rfl
    · unfold f_X12_kind f_X12_kind_27
      rw [x2 _ hA1.th]
      simp only [Option.bind_some]
      rw [if_neg hne, b1]
      rfl
    · exact ((h.ca hw (frSl a2) a3.2).thr 0).fr (fr69 b2)
theorem s_isOf (k p : Int32) (τ : aSt) : f_X12_isOf k p τ = some (bI (decide (p = 0 ∨ k = p ∨ (p = 1 ∧ k = 2))), τ) := by
  unfold f_X12_isOf f_X12_isOf_19 f_X12_isOf_23 f_X12_isOf_24
  rw [if_pos v1_ok, if_pos v0_ok]
  by_cases c0 : p = 0
  · rw [if_pos c0]
    simp [c0, bI]
  · rw [if_neg c0]
    by_cases c1 : k = p
    · rw [if_pos c1]
      simp [c1, bI]
    · rw [if_neg c1]
      by_cases c2 : p = 1
      · rw [if_pos c2]
        by_cases c3 : k = 2
        · rw [if_pos c3]
          simp [c2, c3, bI]
        · rw [if_neg c3]
          have : ¬ (p = 0 ∨ k = p ∨ (p = 1 ∧ k = 2)) := fun z => by
            rcases z with z | z | z
            · exact c0 z
            · exact c1 z
            · exact c3 z.2
          simp [this, bI]
      · rw [if_neg c2]
        have : ¬ (p = 0 ∨ k = p ∨ (p = 1 ∧ k = 2)) := fun z => by
          rcases z with z | z | z
          · exact c0 z
          · exact c1 z
          · exact c2 z.1
        simp [this, bI]
theorem op_as {σ : aSt} (h : Inv σ) (p1 p2 : Int32) : Op (f_X11_as p1 p2) (f_X12_as p1 p2) σ := by
  obtain ⟨N, b, R, hw, hc, hca, hp, hl⟩ := h.look p1
  have hA := Ag.self σ
  rcases hl with ⟨x1, x2⟩ | ⟨n, hn, x0, x1, x2⟩
  · refine ⟨-1000001, σ, sI σ 57 0 0, ?_, ?_, h.thr 0⟩
    · unfold f_X11_as f_X11_as_22
      rw [x1]
      rfl
    · unfold f_X12_as f_X12_as_29
      rw [x2 _ hA.th]
      rfl
  · have hN := hw.hN
    have hne : ¬ nI n = -1000000 := nI_noNone (by omega)
    by_cases c3 : 0 ≤ p2 ∧ p2 ≤ 3
    case neg =>
      refine ⟨-1000001, σ, sI σ 57 0 0, ?_, ?_, h.thr 0⟩
      · unfold f_X11_as f_X11_as_22
        rw [x1]
        simp only [Option.bind_some, oC_some]
        rw [s_within]
        simp only [Option.bind_some, bI_0, decide_eq_false_iff_not]
        rw [if_pos c3]
      · unfold f_X12_as f_X12_as_29
        rw [x2 _ hA.th]
        simp only [Option.bind_some]
        rw [if_neg hne, s_in 0 3 0 3 rfl rfl]
        simp only [Option.bind_some, bI_0, decide_eq_false_iff_not]
        rw [if_pos c3]
    obtain ⟨-, -, -, -, -, -, e6, e7⟩ := hp.2.2.2.2.2.1 n hn
    obtain ⟨σ1, a1, a2, -, a3⟩ := s_kind hw ⟨hc, pCa.of hca⟩ hn e7
    have hI1 : Inv σ1 := h.ca hw (frSl a2) a3.2
    have hA1 : Ag (vw σ) σ1 := hA.fr a2 (fun a k q => cSl_pers q)
    generalize hK : xKind (vw σ) N R n (gI σ 67 n) = K at *
    have ec : f_X11_as p1 p2 σ = f_X11_as_61 (84 + n) (bI (decide (p2 = 0 ∨ K = p2 ∨ (p2 = 1 ∧ K = 2)))) σ1 := by
      unfold f_X11_as
      rw [x1]
      simp only [Option.bind_some, oC_some]
      rw [s_within]
      simp only [Option.bind_some, bI_0, decide_eq_false_iff_not]
      rw [if_neg (not_not_intro c3), a1]
      simp only [Option.bind_some]
      unfold f_X11_as_56 f_X11_as_60
      by_cases d1 : p2 = K
      · rw [if_pos d1]
        simp [d1, bI]
      · rw [if_neg d1]
        by_cases d0 : p2 = 0
        · rw [if_pos d0]
          simp [d0, bI]
        · rw [if_neg d0]
          by_cases d2 : p2 = 1
          · rw [if_pos d2]
            by_cases d3 : K = 2
            · rw [if_pos d3]
              simp [d2, d3, bI]
            · rw [if_neg d3]
              have : ¬ (p2 = 0 ∨ K = p2 ∨ (p2 = 1 ∧ K = 2)) := fun z => by
                rcases z with z | z | z
                · exact d0 z
                · exact d1 z.symm
                · exact d3 z.2
              simp [this, bI]
          · rw [if_neg d2]
            have : ¬ (p2 = 0 ∨ K = p2 ∨ (p2 = 1 ∧ K = 2)) := fun z => by
              rcases z with z | z | z
              · exact d0 z
              · exact d1 z.symm
              · exact d2 z.1
            simp [this, bI]
    have em : ∀ v : Int32, ∃ σ3, Fr (fun a _ => a = 69) (sI (sI (sI σ1 0 10 v) 57 0 0) 57 1 0) σ3 ∧ f_X12_as p1 p2 (sI σ1 0 10 v) = (if (bI (decide (p2 = 0 ∨ K = p2 ∨ (p2 = 1 ∧ K = 2)))) = 0 then (f_X12_found (3) σ3).bind (fun q12 => f_X12_as_58 (q12.1) q12.2) else f_X12_as_58 (nI n) σ3) := by
      intro v
      have hA2 : Ag (vw σ) (sI σ1 0 10 v) := hA1.wr (by simp [pers])
      have hA3 : Ag (vw σ) (sI (sI (sI σ1 0 10 v) 57 0 0) 57 1 0) := hA2.th.wr (by simp [pers])
      have e67 : gI (sI (sI (sI σ1 0 10 v) 57 0 0) 57 1 0) 67 n = gI σ 67 n := by rw [gI_other (Or.inl (by omega)), gI_other (Or.inl (by omega)), gI_other (Or.inl (by omega)), a2.2.1 67 n (by unfold cSl; omega)]
      obtain ⟨σ3, b1, b2, -, b3⟩ := s_kindM hw hA3 hn e67
      refine ⟨σ3, b2, ?_⟩
      unfold f_X12_as
      rw [x2 _ hA2.th]
      simp only [Option.bind_some]
      rw [if_neg hne, s_in 0 3 0 3 rfl rfl]
      simp only [Option.bind_some, bI_0, decide_eq_false_iff_not]
      rw [if_neg (not_not_intro c3), b1, hK]
      simp only [Option.bind_some]
      rw [s_isOf]
      simp only [Option.bind_some, bI_0, decide_eq_false_iff_not]
    by_cases d : p2 = 0 ∨ K = p2 ∨ (p2 = 1 ∧ K = 2)
    · obtain ⟨σ3, c1, c2⟩ := em 0
      refine ⟨nI n, sI σ1 0 10 0, σ3, ?_, ?_, ?_⟩
      · show f_X11_as p1 p2 σ = _
        rw [ec]
        unfold f_X11_as_61 f_X11_unhurt f_X11_as_84
        rw [if_neg (by rw [bI_0]; simp [d]), if_pos (a3.1.ok hn)]
        obtain ⟨-, -, -, -, -, -, p6⟩ := a3.1.pay hn
        rw [p6]
        rfl
      · show f_X12_as p1 p2 _ = _
        rw [c2, if_neg (by rw [bI_0]; simp [d])]
        rfl
      · have hf := hI1.find 0
        refine Inv.fr (σ := sI (sI (sI σ1 0 10 0) 57 0 0) 57 1 0) ?_ (fr69 c1)
        refine Inv.sh (σ := σ1) hI1 (((Fr.sI Fr.rf ?_).sI ?_).sI ?_) ?_ ?_
        · simp [cSh]
        · simp [cSh, scr]
        · simp [cSh]
        · exact hI1.1.fr (C := fun a k => (a = 0 ∧ k = 10) ∨ (a = 57 ∧ (k = 0 ∨ k = 1))) (((Fr.sI Fr.rf (Or.inl ⟨rfl, rfl⟩)).sI (Or.inr ⟨rfl, Or.inl rfl⟩)).sI (Or.inr ⟨rfl, Or.inr rfl⟩)) (fun a k q => by omega)
        · rw [gI_same, gI_other (Or.inl (by omega)), gI_other (Or.inl (by omega)), gI_same]
    · obtain ⟨σ3, c1, c2⟩ := em 3
      refine ⟨-1000010 - 3, sI σ1 0 10 3, sI σ3 57 1 3, ?_, ?_, ?_⟩
      · show f_X11_as p1 p2 σ = _
        rw [ec]
        unfold f_X11_as_61 f_X11_found f_X11_as_84
        rw [if_pos (by rw [bI_0]; simp [d])]
        rfl
      · show f_X12_as p1 p2 _ = _
        rw [c2, if_pos (by rw [bI_0]; simp [d])]
        rfl
      · refine Inv.sh (σ := σ1) hI1 (σ' := sI σ3 57 1 3) ?_ ?_ ?_
        · refine Fr.sI (Fr.tr ?_ (c1.mono (fun a k q => ?_))) ?_
          · refine ((Fr.sI Fr.rf ?_).sI ?_).sI ?_
            · simp [cSh]
            · simp [cSh, scr]
            · simp [cSh]
          · rw [q]; simp [cSh, scr]
          · simp [cSh]
        · refine hI1.1.fr (C := fun a k => (a = 0 ∧ k = 10) ∨ (a = 57 ∧ (k = 0 ∨ k = 1)) ∨ a = 69) (Fr.sI (Fr.tr (((Fr.sI Fr.rf (Or.inl ⟨rfl, rfl⟩)).sI (Or.inr (Or.inl ⟨rfl, Or.inl rfl⟩))).sI (Or.inr (Or.inl ⟨rfl, Or.inr rfl⟩))) (c1.mono (fun a k q => Or.inr (Or.inr q)))) (Or.inr (Or.inl ⟨rfl, Or.inr rfl⟩))) (fun a k q => by omega)
        · rw [gI_same, gI_other (Or.inl (by omega)), c1.2.1 0 10 (by omega), gI_other (Or.inl (by omega)), gI_other (Or.inl (by omega)), gI_same]
