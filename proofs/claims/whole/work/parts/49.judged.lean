/-! ===== judged ===== -/
def xJu (g : Nat → Nat → Int32) (N R n kn j : Nat) : Int32 := if j = 0 then xWt g R (xSet g N R n kn (g 65 n)) else if j = 1 then xAct g (xWt g R (xSet g N R n kn (g 65 n))) else if j = 2 then xSet g N R n kn (g 65 n) else xWhy g R (xSet g N R n kn (g 65 n))
theorem xJu_0 {g : Nat → Nat → Int32} {N R n kn : Nat} : xJu g N R n kn 0 = xWt g R (xSet g N R n kn (g 65 n)) := by
  unfold xJu
  rw [if_pos rfl]
theorem xJu_1 {g : Nat → Nat → Int32} {N R n kn : Nat} : xJu g N R n kn 1 = xAct g (xWt g R (xSet g N R n kn (g 65 n))) := by
  unfold xJu
  rw [if_neg (by decide), if_pos rfl]
theorem xJu_2 {g : Nat → Nat → Int32} {N R n kn : Nat} : xJu g N R n kn 2 = xSet g N R n kn (g 65 n) := by
  unfold xJu
  rw [if_neg (by decide), if_neg (by decide), if_pos rfl]
theorem xJu_3 {g : Nat → Nat → Int32} {N R n kn : Nat} : xJu g N R n kn 3 = xWhy g R (xSet g N R n kn (g 65 n)) := by
  unfold xJu
  rw [if_neg (by decide), if_neg (by decide), if_neg (by decide)]
theorem op_judged {σ : aSt} (h : Inv σ) (p1 p2 p3 : Int32) : Op (f_X11_judged p1 p2 p3) (f_X12_judged p1 p2 p3) σ := by
  obtain ⟨N, b, R, hw, hc, hca, hp, hl⟩ := h.look p1
  have hA := Ag.self σ
  rcases hl with ⟨x1, x2⟩ | ⟨n, hn, x0, x1, x2⟩
  · refine ⟨-1000001, σ, sI σ 57 0 0, ?_, ?_, h.thr 0⟩
    · unfold f_X11_judged f_X11_judged_24
      rw [x1]
      rfl
    · unfold f_X12_judged f_X12_judged_41
      rw [x2 _ hA.th]
      rfl
  · have hN := hw.hN
    have hne : ¬ nI n = -1000000 := nI_noNone (by omega)
    by_cases c2 : 0 ≤ p2 ∧ p2 ≤ 1
    case neg =>
      refine ⟨-1000001, σ, sI σ 57 0 0, ?_, ?_, h.thr 0⟩
      · unfold f_X11_judged f_X11_judged_24
        rw [x1]
        simp only [Option.bind_some, oC_some]
        rw [s_within]
        simp only [Option.bind_some, bI_0, decide_eq_false_iff_not]
        rw [if_pos c2]
      · unfold f_X12_judged f_X12_judged_41
        rw [x2 _ hA.th]
        simp only [Option.bind_some]
        rw [if_neg hne, s_in 0 1 0 1 rfl rfl]
        simp only [Option.bind_some, bI_0, decide_eq_false_iff_not]
        rw [if_pos c2]
    have c2' := c2
    obtain ⟨kn, hkn, rfl⟩ := ix_rng (N := 2) rfl rfl c2'.1 c2'.2
    by_cases c3 : 0 ≤ p3 ∧ p3 ≤ 3
    case neg =>
      have d0 : ¬ p3 = 0 := fun z => c3 (by rw [z]; decide)
      have d1 : ¬ p3 = 1 := fun z => c3 (by rw [z]; decide)
      have d2 : ¬ p3 = 2 := fun z => c3 (by rw [z]; decide)
      have d3 : ¬ p3 = 3 := fun z => c3 (by rw [z]; decide)
      refine ⟨-1000001, σ, sI σ 57 0 0, ?_, ?_, h.thr 0⟩
      · unfold f_X11_judged
        rw [x1]
        simp only [Option.bind_some, oC_some]
        rw [s_within]
        simp only [Option.bind_some, bI_0, decide_eq_false_iff_not]
        rw [if_neg (not_not_intro c2), if_neg d0, if_neg d1, if_neg d2, if_neg d3]
      · unfold f_X12_judged f_X12_judged_41
        rw [x2 _ hA.th]
        simp only [Option.bind_some]
        rw [if_neg hne, s_in 0 1 0 1 rfl rfl]
        simp only [Option.bind_some, bI_0, decide_eq_false_iff_not]
        rw [if_neg (not_not_intro c2), s_in 0 3 0 3 rfl rfl]
        simp only [Option.bind_some, bI_0, decide_eq_false_iff_not]
        rw [if_pos c3]
    have c3' := c3
    obtain ⟨j, hj, rfl⟩ := ix_rng (N := 4) rfl rfl c3'.1 c3'.2
    have ec : ∃ σ1, f_X11_judged p1 (nI kn) (nI j) σ = some (xJu (vw σ) N R n kn j, σ1) ∧ Fr cSl σ σ1 ∧ cK (vw σ) N R b σ1 := by
      unfold f_X11_judged
      rw [x1]
      simp only [Option.bind_some, oC_some]
      rw [s_within]
      simp only [Option.bind_some, bI_0, decide_eq_false_iff_not]
      rw [if_neg (not_not_intro c2)]
      rcases (by omega : j = 0 ∨ j = 1 ∨ j = 2 ∨ j = 3) with q | q | q | q <;> subst q
      · obtain ⟨σ1, a1, a2, -, a3⟩ := s_scoreOf hw ⟨hc, pCa.of hca⟩ hn hkn
        refine ⟨σ1, ?_, a2, a3⟩
        rw [if_pos (show nI 0 = 0 from rfl), a1, Option.bind_some, xJu_0]
      · obtain ⟨σ1, a1, a2, -, a3⟩ := s_actOf hw ⟨hc, pCa.of hca⟩ hn hkn
        refine ⟨σ1, ?_, a2, a3⟩
        rw [if_neg (by decide), if_pos (show nI 1 = 1 from rfl), a1, Option.bind_some, xJu_1]
      · obtain ⟨σ1, a1, a2, -, a3⟩ := s_heldBy hw ⟨hc, pCa.of hca⟩ hn hkn
        refine ⟨σ1, ?_, a2, a3⟩
        rw [if_neg (by decide), if_neg (by decide), if_pos (show nI 2 = 2 from rfl), a1, Option.bind_some, xJu_2]
      · obtain ⟨σ1, a1, a2, a3⟩ := s_why hw ⟨hc, pCa.of hca⟩ hn hkn
        refine ⟨σ1, ?_, a2, a3⟩
        rw [if_neg (by decide), if_neg (by decide), if_neg (by decide), if_pos (show nI 3 = 3 from rfl), a1, Option.bind_some, xJu_3]
    obtain ⟨σ1, a1, a2, a3⟩ := ec
    have hA1 : Ag (vw σ) σ1 := hA.fr a2 (fun a k q => cSl_pers q)
    obtain ⟨σ2, b1, b2, -, b3⟩ := s_setOf hw hA1.th hn hkn (vw σ 65 n)
    refine ⟨_, σ1, σ2, a1, ?_, ((h.ca hw (frSl a2) a3.2).thr 0).fr (fr69 b2)⟩
    unfold f_X12_judged f_X12_judged_107
    rw [x2 _ hA1.th]
    simp only [Option.bind_some]
    rw [if_neg hne, s_in 0 1 0 1 rfl rfl]
    simp only [Option.bind_some, bI_0, decide_eq_false_iff_not]
    rw [if_neg (not_not_intro c2), s_in 0 3 0 3 rfl rfl]
    simp only [Option.bind_some, bI_0, decide_eq_false_iff_not]
    rw [if_neg (not_not_intro c3), if_pos (ix_in (by omega) (by omega)), ix_cl (by omega), hA1.th.row n (by omega), b1]
    simp only [Option.bind_some]
    rcases (by omega : j = 0 ∨ j = 1 ∨ j = 2 ∨ j = 3) with q | q | q | q <;> subst q
    · rw [if_pos (show nI 0 = 0 from rfl), s_weightOf hw b3, Option.bind_some, xJu_0]
    · rw [if_neg (by decide), if_pos (show nI 1 = 1 from rfl), s_weightOf hw b3, Option.bind_some, s_actBy b3, Option.bind_some, xJu_1]
    · rw [if_neg (by decide), if_neg (by decide), if_pos (show nI 2 = 2 from rfl), xJu_2]
    · obtain ⟨s, hs, es⟩ := xHold_rng hw (xFeat (vw σ) N n kn (vw σ 65 n))
      have es : xSet (vw σ) N R n kn (vw σ 65 n) = nI s := es
      rw [if_neg (by decide), if_neg (by decide), if_neg (by decide), xJu_3, es, s_whyM hw b3 hs, Option.bind_some]
