/-! ===== feature, profile ===== -/
theorem scr20 {a k : Nat} (h : a = 20 ∨ a = 21 ∨ a = 22) : scr a k := Or.inr (Or.inr (Or.inl ⟨by omega, by omega⟩))
theorem scr69 {k : Nat} : scr 69 k := by simp [scr]
theorem scr570 : scr 57 0 := by simp [scr]
/-- one tag looked up on both sides, and the data -/
theorem Inv.look {σ : aSt} (h : Inv σ) (t : Int32) : ∃ N b R, gW (vw σ) N R ∧ cG (vw σ) N R b σ ∧ pCache σ N R ∧ pPay σ N ∧ ((f_X3_find t σ = some (none, σ) ∧ ∀ τ : aSt, Ag (vw σ) τ → f_X12_numberOf t τ = some (-1000000, τ)) ∨ (∃ n, n < N ∧ vw σ 61 n = t ∧ f_X3_find t σ = some (some (84 + n), σ) ∧ ∀ τ : aSt, Ag (vw σ) τ → f_X12_numberOf t τ = some (nI n, τ))) := by
  obtain ⟨N, b, R, hw, hc, hca, hp, -⟩ := h.data
  refine ⟨N, b, R, hw, hc, hca, hp, ?_⟩
  have e5 : ∀ τ : aSt, Ag (vw σ) τ → gI τ 57 5 = nI N := fun τ ha => by rw [ha.c (by omega), hw.n5]
  have e61 : ∀ τ : aSt, Ag (vw σ) τ → ∀ n, n < N → gI τ 61 n = gI σ 61 n := fun τ ha n _ => by rw [ha.row n (by omega), (Ag.self σ).row n (by omega)]
  rcases s_look hp t with ⟨x1, x2⟩ | ⟨n, hn, x0, x1, x2⟩
  · exact Or.inl ⟨x1, fun τ ha => x2 τ (e5 τ ha) (e61 τ ha)⟩
  · exact Or.inr ⟨n, hn, by rw [vw_row n (by omega)]; exact x0, x1, fun τ ha => x2 τ (e5 τ ha) (e61 τ ha)⟩
theorem Ag.fr2 {g : Nat → Nat → Int32} {C : Nat → Nat → Prop} {τ τ' : aSt} (h : Ag g τ) (f : Fr C τ τ') (hc : ∀ a k, C a k → scr a k) : Ag g τ' := h.fr f (fun a k q => scr_pers (hc a k q))
theorem Ag.th {g : Nat → Nat → Int32} {τ : aSt} (h : Ag g τ) : Ag g (sI τ 57 0 0) := h.wr (scr_pers scr570)
theorem op_feature {σ : aSt} (h : Inv σ) (p1 p2 p3 : Int32) : Op (f_X11_feature p1 p2 p3) (f_X12_feature p1 p2 p3) σ := by
  obtain ⟨N, b, R, hw, hc, hca, hp, hl⟩ := h.look p1
  have hA := Ag.self σ
  rcases hl with ⟨x1, x2⟩ | ⟨n, hn, x0, x1, x2⟩
  · refine ⟨-1000001, σ, sI σ 57 0 0, ?_, ?_, h.thr 0⟩
    · unfold f_X11_feature f_X11_feature_34
      rw [x1]
      rfl
    · unfold f_X12_feature f_X12_feature_41
      rw [x2 _ hA.th]
      rfl
  · have hN := hw.hN
    have hne : ¬ nI n = -1000000 := nI_noNone (by omega)
    by_cases c2 : 0 ≤ p2 ∧ p2 ≤ 9
    case neg =>
      refine ⟨-1000001, σ, sI σ 57 0 0, ?_, ?_, h.thr 0⟩
      · unfold f_X11_feature f_X11_feature_34
        rw [x1]
        simp only [Option.bind_some, oC_some]
        rw [s_within]
        simp only [Option.bind_some, bI_0, decide_eq_false_iff_not]
        rw [if_pos c2]
      · unfold f_X12_feature f_X12_feature_41
        rw [x2 _ hA.th]
        simp only [Option.bind_some]
        rw [if_neg hne, s_in 0 9 0 9 rfl rfl]
        simp only [Option.bind_some, bI_0, decide_eq_false_iff_not]
        rw [if_pos c2]
    by_cases c3 : 0 ≤ p3 ∧ p3 ≤ 1
    case neg =>
      refine ⟨-1000001, σ, sI σ 57 0 0, ?_, ?_, h.thr 0⟩
      · unfold f_X11_feature f_X11_feature_34
        rw [x1]
        simp only [Option.bind_some, oC_some]
        rw [s_within]
        simp only [Option.bind_some, bI_0, decide_eq_false_iff_not]
        rw [if_neg (not_not_intro c2), s_within]
        simp only [Option.bind_some, bI_0, decide_eq_false_iff_not]
        rw [if_pos c3]
      · unfold f_X12_feature f_X12_feature_41
        rw [x2 _ hA.th]
        simp only [Option.bind_some]
        rw [if_neg hne, s_in 0 9 0 9 rfl rfl]
        simp only [Option.bind_some, bI_0, decide_eq_false_iff_not]
        rw [if_neg (not_not_intro c2), s_in 0 1 0 1 rfl rfl]
        simp only [Option.bind_some, bI_0, decide_eq_false_iff_not]
        rw [if_pos c3]
    have c2' := c2
    have c3' := c3
    obtain ⟨k, hk, rfl⟩ := ix_rng (N := 10) rfl rfl c2'.1 c2'.2
    obtain ⟨kn, hkn, rfl⟩ := ix_rng (N := 2) rfl rfl c3'.1 c3'.2
    obtain ⟨σ1, a1, a2, -, a3, -⟩ := s_gather hw hc hn hkn
    have hA1 : Ag (vw σ) σ1 := hA.fr2 a2 (fun a k q => scr20 q)
    obtain ⟨σ2, b1, b2, -, b3⟩ := s_features hw hA1.th hn hkn (vw σ 65 n)
    refine ⟨xFeat (vw σ) N n kn (vw σ 65 n) k, σ1, σ2, ?_, ?_, ?_⟩
    · unfold f_X11_feature f_X2_rowOf
      rw [x1]
      simp only [Option.bind_some, oC_some]
      rw [s_within]
      simp only [Option.bind_some, bI_0, decide_eq_false_iff_not]
      rw [if_neg (not_not_intro c2), s_within]
      simp only [Option.bind_some, bI_0, decide_eq_false_iff_not]
      rw [if_neg (not_not_intro c3), hc.r11, a1]
      simp only [Option.bind_some]
      rw [if_pos (ix_in hk (by omega)), ix_cl (by omega), a3 k hk]
    · unfold f_X12_feature
      rw [x2 _ hA1.th]
      simp only [Option.bind_some]
      rw [if_neg hne, s_in 0 9 0 9 rfl rfl]
      simp only [Option.bind_some, bI_0, decide_eq_false_iff_not]
      rw [if_neg (not_not_intro c2), s_in 0 1 0 1 rfl rfl]
      simp only [Option.bind_some, bI_0, decide_eq_false_iff_not]
      rw [if_neg (not_not_intro c3), if_pos (ix_in (by omega) (by omega)), ix_cl (n := n) (by omega), hA1.th.row n (by omega), b1]
      simp only [Option.bind_some]
      rw [if_pos (ix_in hk (by omega)), ix_cl (by omega), b3 k hk]
    · exact ((h.fr (a2.mono (fun a k q => scr20 q))).thr 0).fr (b2.mono (fun a k q => by rw [q]; exact scr69))
theorem op_profile {σ : aSt} (h : Inv σ) (p1 p2 : Int32) : Op (f_X11_profile p1 p2) (f_X12_profile p1 p2) σ := by
  obtain ⟨N, b, R, hw, hc, hca, hp, hl⟩ := h.look p1
  have hA := Ag.self σ
  rcases hl with ⟨x1, x2⟩ | ⟨n, hn, x0, x1, x2⟩
  · refine ⟨-1000001, σ, sI σ 57 0 0, ?_, ?_, h.thr 0⟩
    · unfold f_X11_profile f_X11_profile_22
      rw [x1]
      rfl
    · unfold f_X12_profile f_X12_profile_27 f_X12_profile_38
      rw [x2 _ hA.th]
      rfl
  · have hN := hw.hN
    have hne : ¬ nI n = -1000000 := nI_noNone (by omega)
    by_cases c3 : 0 ≤ p2 ∧ p2 ≤ 1
    case neg =>
      refine ⟨-1000001, σ, sI σ 57 0 0, ?_, ?_, h.thr 0⟩
      · unfold f_X11_profile f_X11_profile_22
        rw [x1]
        simp only [Option.bind_some, oC_some]
        rw [s_within]
        simp only [Option.bind_some, bI_0, decide_eq_false_iff_not]
        rw [if_pos c3]
      · unfold f_X12_profile f_X12_profile_27 f_X12_profile_38
        rw [x2 _ hA.th]
        simp only [Option.bind_some]
        rw [if_neg hne, s_in 0 1 0 1 rfl rfl]
        simp only [Option.bind_some, bI_0, decide_eq_false_iff_not]
        rw [if_pos c3]
    have c3' := c3
    obtain ⟨kn, hkn, rfl⟩ := ix_rng (N := 2) rfl rfl c3'.1 c3'.2
    obtain ⟨σ1, a1, a2, -, -, a4⟩ := s_gather hw hc hn hkn
    have hA1 : Ag (vw σ) σ1 := hA.fr2 a2 (fun a k q => scr20 q)
    refine ⟨xProf (vw σ) N n kn, σ1, sI σ1 57 0 0, ?_, ?_, ?_⟩
    · unfold f_X11_profile f_X2_rowOf
      rw [x1]
      simp only [Option.bind_some, oC_some]
      rw [s_within]
      simp only [Option.bind_some, bI_0, decide_eq_false_iff_not]
      rw [if_neg (not_not_intro c3), hc.r11, a1]
      simp only [Option.bind_some]
      rw [a4]
    · unfold f_X12_profile f_X12_profile_38
      rw [x2 _ hA1.th]
      simp only [Option.bind_some]
      rw [if_neg hne, s_in 0 1 0 1 rfl rfl]
      simp only [Option.bind_some, bI_0, decide_eq_false_iff_not]
      rw [if_neg (not_not_intro c3), s_profile hw hA1.th hn hkn]
      rfl
    · exact (h.fr (a2.mono (fun a k q => scr20 q))).thr 0
