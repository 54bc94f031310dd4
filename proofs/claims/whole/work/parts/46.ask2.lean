/-! ===== ask, the reference's ===== -/
def tM (T : Nat → Int32) (t : Nat) (τ : aSt) : Prop := gI τ 57 46 = nI t ∧ ∀ i, i < t → gI τ 83 i = T i
def cTM (a k : Nat) : Prop := a = 83 ∨ (a = 57 ∧ k = 46)
theorem cTM_pers {a k : Nat} (h : cTM a k) : pers a k = false := by
  unfold cTM at h
  unfold pers
  simp only [Bool.or_eq_false_iff, Bool.and_eq_false_iff, decide_eq_false_iff_not]
  omega
def cTN (a k : Nat) : Prop := a = 83 ∨ (a = 57 ∧ k = 46) ∨ a = 69
section AM
variable {g : Nat → Nat → Int32} {N R n : Nat} {T : Nat → Int32}
theorem s_began {τ : aSt} (hA : Ag g τ) {t : Nat} (ht : tM T t τ) (h16 : t < 16) {c : Int32} (e : T t = c) : ∃ τ', f_X12_began c τ = some ((), τ') ∧ Ag g τ' ∧ tM T (t + 1) τ' ∧ Fr cTN τ τ' := by
  have f : Fr cTM τ (sI (sI τ 83 t c) 57 46 (nI (t + 1))) := Fr.sI (Fr.sI Fr.rf (Or.inl rfl)) (Or.inr ⟨rfl, rfl⟩)
  refine ⟨sI (sI τ 83 t c) 57 46 (nI (t + 1)), ?_, hA.fr f (fun a k q => cTM_pers q), ⟨gI_same _ _ _ _, fun i hi => ?_⟩, f.mono (fun a k q => by unfold cTM at q; unfold cTN; omega)⟩
  · unfold f_X12_began f_X12_began_29
    rw [ht.1, if_neg (show ¬ (16 : Int32) ≤ nI t by rw [show (16 : Int32) = nI 16 from rfl, nI_leI (by omega) (by omega)]; omega), if_pos (ix_in (by omega) (by omega)), ix_cl (by omega), gI_other (Or.inl (by omega)), ht.1, nI_1]
  · rw [gI_other (Or.inl (by omega))]
    by_cases z : i = t
    · subst z
      rw [gI_same, e]
    · rw [gI_other (Or.inr z)]
      exact ht.2 i (by omega)
def mOk (g : Nat → Nat → Int32) (T : Nat → Int32) (t : Nat) (v : Int32) (τ : aSt) (r : Option (Int32 × aSt)) : Prop := ∃ τ', r = some (v, τ') ∧ Ag g τ' ∧ tM T t τ' ∧ Fr cTN τ τ'
theorem s_hw11 (hw : gW g N R) (hn : n < N) {K : Int32} {τ : aSt} (hA : Ag g τ) {t : Nat} (ht : tM T t τ) (h16 : t + 1 < 16) (e : T t = 11) (e1 : T (t + 1) = 10) : mOk g T (t + 2) (if K = 2 then (g 65 n - xS g N R n) / 2 else g 65 n - xS g N R n) τ (f_X12_heldWorth_11 (nI n) K τ) := by
  have hN := hw.hN
  obtain ⟨τ1, a1, a2, a3, a4⟩ := s_began hA ht (by omega) e
  obtain ⟨τ2, b1, b2, b3, b4⟩ := s_began a2 a3 (by omega) e1
  obtain ⟨τ3, c1, c2, cL, c3⟩ := s_scoreM hw b2 hn (kn := 0) (by omega)
  refine ⟨τ3, ?_, c3, ⟨by rw [c2.2.1 57 46 (by omega)]; exact b3.1, fun i hi => by rw [c2.2.1 83 i (by omega)]; exact b3.2 i hi⟩, a4.tr (b4.tr (c2.mono (fun a k q => by unfold cTN; omega)))⟩
  unfold f_X12_heldWorth_11 f_X12_heldWorth_49
  rw [a1]
  simp only [Option.bind_some]
  rw [b1]
  simp only [Option.bind_some]
  rw [if_pos (ix_in (by omega) (by omega)), show f_X12_scoreOf (nI n) 0 τ2 = _ from c1]
  simp only [Option.bind_some]
  rw [ix_cl (by omega), b2.row n (by omega)]
  have es : xWt g R (xSet g N R n 0 (g 65 n)) = xS g N R n := rfl
  rw [es]
  by_cases c : K = 2
  · rw [if_pos c, if_pos c]
  · rw [if_neg c, if_neg c]
theorem s_hw1 (hw : gW g N R) (hn : n < N) {τ : aSt} (hA : Ag g τ) {t : Nat} (ht : tM T t τ) (h16 : t + 1 < 16) (e : T t = 11) (e1 : T (t + 1) = 10) : mOk g T (t + 2) (g 65 n - xS g N R n) τ (f_X12_heldWorth (nI n) 1 τ) := by
  have := s_hw11 hw hn (K := 1) hA ht h16 e e1
  rw [if_neg (by decide)] at this
  unfold f_X12_heldWorth
  rw [if_neg (by decide)]
  exact this
theorem s_hw2 (hw : gW g N R) (hn : n < N) {τ : aSt} (hA : Ag g τ) {t : Nat} (ht : tM T t τ) (h16 : t + 2 < 16) (e : T t = 12) (e1 : T (t + 1) = 11) (e2 : T (t + 2) = 10) : mOk g T (t + 3) ((g 65 n - xS g N R n) / 2) τ (f_X12_heldWorth (nI n) 2 τ) := by
  obtain ⟨τ1, a1, a2, a3, a4⟩ := s_began hA ht (by omega) e
  obtain ⟨τ2, b1, b2, b3, b4⟩ := s_hw11 hw hn (K := 2) a2 a3 h16 e1 e2
  rw [if_pos rfl] at b1
  refine ⟨τ2, ?_, b2, b3, a4.tr b4⟩
  unfold f_X12_heldWorth
  rw [if_pos rfl, a1]
  simp only [Option.bind_some]
  exact b1
theorem o0 (τ : aSt) : f_X12_isOf 0 1 τ = some (0, τ) := by rw [s_isOf]; rfl
theorem o1 (τ : aSt) : f_X12_isOf 1 1 τ = some (1, τ) := by rw [s_isOf]; rfl
theorem o2 (τ : aSt) : f_X12_isOf 2 1 τ = some (1, τ) := by rw [s_isOf]; rfl
theorem o3 (τ : aSt) : f_X12_isOf 3 1 τ = some (0, τ) := by rw [s_isOf]; rfl
theorem s_mk0 (hw : gW g N R) (hn : n < N) {τ : aSt} (hA : Ag g τ) {t : Nat} (ht : tM T t τ) (h16 : t < 16) (e : T t = 20) : mOk g T (t + 1) (g 66 n) τ (f_X12_markOf (nI n) 0 τ) := by
  have hN := hw.hN
  obtain ⟨τ1, a1, a2, a3, a4⟩ := s_began hA ht (by omega) e
  refine ⟨τ1, ?_, a2, a3, a4⟩
  unfold f_X12_markOf f_X12_markOf_11 f_X12_markOf_25 f_X12_markOf_36 f_X12_markOf_80 f_X12_markOf_95
  simp only [o0, Option.bind_some, a1, if_pos, show ((0 : Int32) = 2) = False by decide, show ((0 : Int32) = 3) = False by decide, if_false, if_pos (ix_in (show n < 120 by omega) (by omega)), ix_cl (show n < 2147483648 by omega), a2.row n (show (61 ≤ 66 ∧ 66 ≤ 66) ∨ _ from Or.inl (by omega)), Int32.add_zero]
theorem s_mk3 (hw : gW g N R) (hn : n < N) {τ : aSt} (hA : Ag g τ) {t : Nat} (ht : tM T t τ) (h16 : t + 1 < 16) (e : T t = 23) (e1 : T (t + 1) = 20) : mOk g T (t + 2) (g 66 n + g 63 n) τ (f_X12_markOf (nI n) 3 τ) := by
  have hN := hw.hN
  obtain ⟨τ0, c1, c2, c3, c4⟩ := s_began hA ht (by omega) e
  obtain ⟨τ1, a1, a2, a3, a4⟩ := s_began c2 c3 (by omega) e1
  refine ⟨τ1, ?_, a2, a3, c4.tr a4⟩
  unfold f_X12_markOf f_X12_markOf_11 f_X12_markOf_25 f_X12_markOf_36 f_X12_markOf_80 f_X12_markOf_95
  simp only [o3, Option.bind_some, c1, a1, if_pos, show ((3 : Int32) = 2) = False by decide, if_false, if_pos (ix_in (show n < 120 by omega) (by omega)), ix_cl (show n < 2147483648 by omega), a2.row n (show (61 ≤ 66 ∧ 66 ≤ 66) ∨ _ from Or.inl (by omega)), a2.row n (show (61 ≤ 63 ∧ 63 ≤ 66) ∨ _ from Or.inl (by omega))]
theorem s_mk1 (hw : gW g N R) (hn : n < N) {τ : aSt} (hA : Ag g τ) {t : Nat} (ht : tM T t τ) (h16 : t + 3 < 16) (e : T t = 21) (e1 : T (t + 1) = 20) (e2 : T (t + 2) = 11) (e3 : T (t + 3) = 10) : mOk g T (t + 4) (g 66 n + (g 65 n - xS g N R n)) τ (f_X12_markOf (nI n) 1 τ) := by
  have hN := hw.hN
  obtain ⟨τ0, c1, c2, c3, c4⟩ := s_began hA ht (by omega) e
  obtain ⟨τ1, a1, a2, a3, a4⟩ := s_began c2 c3 (by omega) e1
  obtain ⟨τ2, b1, b2, b3, b4⟩ := s_hw1 hw hn a2 a3 (by omega) e2 e3
  refine ⟨τ2, ?_, b2, b3, c4.tr (a4.tr b4)⟩
  unfold f_X12_markOf f_X12_markOf_11 f_X12_markOf_25 f_X12_markOf_36 f_X12_markOf_80 f_X12_markOf_95
  simp only [o1, Option.bind_some, c1, a1, b1, show ((1 : Int32) = 2) = False by decide, show ((1 : Int32) = 3) = False by decide, show ((1 : Int32) = 0) = False by decide, if_false, if_pos (ix_in (show n < 120 by omega) (by omega)), ix_cl (show n < 2147483648 by omega), a2.row n (show (61 ≤ 66 ∧ 66 ≤ 66) ∨ _ from Or.inl (by omega))]
theorem s_mk2 (hw : gW g N R) (hn : n < N) {τ : aSt} (hA : Ag g τ) {t : Nat} (ht : tM T t τ) (h16 : t + 5 < 16) (e : T t = 22) (e1 : T (t + 1) = 21) (e2 : T (t + 2) = 20) (e3 : T (t + 3) = 12) (e4 : T (t + 4) = 11) (e5 : T (t + 5) = 10) : mOk g T (t + 6) (g 66 n + (g 65 n - xS g N R n) / 2 + 100) τ (f_X12_markOf (nI n) 2 τ) := by
  have hN := hw.hN
  obtain ⟨τ0, c1, c2, c3, c4⟩ := s_began hA ht (by omega) e
  obtain ⟨τ9, d1, d2, d3, d4⟩ := s_began c2 c3 (by omega) e1
  obtain ⟨τ1, a1, a2, a3, a4⟩ := s_began d2 d3 (by omega) e2
  obtain ⟨τ2, b1, b2, b3, b4⟩ := s_hw2 hw hn a2 a3 (by omega) e3 e4 e5
  refine ⟨τ2, ?_, b2, b3, c4.tr (d4.tr (a4.tr b4))⟩
  unfold f_X12_markOf f_X12_markOf_11 f_X12_markOf_25 f_X12_markOf_36 f_X12_markOf_80 f_X12_markOf_95
  simp only [o2, Option.bind_some, c1, d1, a1, b1, if_true, show ((2 : Int32) = 3) = False by decide, show ((1 : Int32) = 0) = False by decide, if_false, if_pos (ix_in (show n < 120 by omega) (by omega)), ix_cl (show n < 2147483648 by omega), a2.row n (show (61 ≤ 66 ∧ 66 ≤ 66) ∨ _ from Or.inl (by omega))]
theorem s_wo0 (hw : gW g N R) (hn : n < N) {τ : aSt} (hA : Ag g τ) {t : Nat} (ht : tM T t τ) (h16 : t < 16) (e : T t = 10) : mOk g T (t + 1) (g 65 n) τ (f_X12_worthOf (nI n) 0 τ) := by
  have hN := hw.hN
  obtain ⟨τ1, a1, a2, a3, a4⟩ := s_began hA ht (by omega) e
  refine ⟨τ1, ?_, a2, a3, a4⟩
  unfold f_X12_worthOf f_X12_worthOf_26 f_X12_worthOf_53
  simp only [o0, Option.bind_some, a1, if_true, show ((0 : Int32) = 3) = False by decide, if_false, if_pos (ix_in (show n < 120 by omega) (by omega)), ix_cl (show n < 2147483648 by omega), a2.row n (show (61 ≤ 65 ∧ 65 ≤ 66) ∨ _ from Or.inl (by omega)), Int32.add_zero]
theorem s_wo3 (hw : gW g N R) (hn : n < N) {τ : aSt} (hA : Ag g τ) {t : Nat} (ht : tM T t τ) (h16 : t + 3 < 16) (e : T t = 13) (e1 : T (t + 1) = 10) (e2 : T (t + 2) = 23) (e3 : T (t + 3) = 20) : mOk g T (t + 4) (g 65 n + (g 66 n + g 63 n)) τ (f_X12_worthOf (nI n) 3 τ) := by
  have hN := hw.hN
  obtain ⟨τ0, c1, c2, c3, c4⟩ := s_began hA ht (by omega) e
  obtain ⟨τ1, a1, a2, a3, a4⟩ := s_began c2 c3 (by omega) e1
  obtain ⟨τ2, b1, b2, b3, b4⟩ := s_mk3 hw hn a2 a3 (by omega) e2 e3
  refine ⟨τ2, ?_, b2, b3, c4.tr (a4.tr b4)⟩
  unfold f_X12_worthOf f_X12_worthOf_26 f_X12_worthOf_53
  simp only [o3, Option.bind_some, c1, a1, b1, if_true, if_pos (ix_in (show n < 120 by omega) (by omega)), ix_cl (show n < 2147483648 by omega), a2.row n (show (61 ≤ 65 ∧ 65 ≤ 66) ∨ _ from Or.inl (by omega))]
theorem s_wo1 (hw : gW g N R) (hn : n < N) {τ : aSt} (hA : Ag g τ) {t : Nat} (ht : tM T t τ) (h16 : t + 1 < 16) (e : T t = 11) (e1 : T (t + 1) = 10) : mOk g T (t + 2) (g 65 n - xS g N R n) τ (f_X12_worthOf (nI n) 1 τ) := by
  obtain ⟨τ2, b1, b2, b3, b4⟩ := s_hw1 hw hn hA ht (by omega) e e1
  refine ⟨τ2, ?_, b2, b3, b4⟩
  unfold f_X12_worthOf
  simp only [o1, Option.bind_some, b1, show ((1 : Int32) = 0) = False by decide, if_false]
theorem s_wo2 (hw : gW g N R) (hn : n < N) {τ : aSt} (hA : Ag g τ) {t : Nat} (ht : tM T t τ) (h16 : t + 2 < 16) (e : T t = 12) (e1 : T (t + 1) = 11) (e2 : T (t + 2) = 10) : mOk g T (t + 3) ((g 65 n - xS g N R n) / 2) τ (f_X12_worthOf (nI n) 2 τ) := by
  obtain ⟨τ2, b1, b2, b3, b4⟩ := s_hw2 hw hn hA ht (by omega) e e1 e2
  refine ⟨τ2, ?_, b2, b3, b4⟩
  unfold f_X12_worthOf
  simp only [o2, Option.bind_some, b1, show ((1 : Int32) = 0) = False by decide, if_false]
theorem xKind_4 (vd : Int32) : xKind g N R n vd = 0 ∨ xKind g N R n vd = 1 ∨ xKind g N R n vd = 2 ∨ xKind g N R n vd = 3 := by
  unfold xKind
  by_cases c : vd = 0
  · rw [if_pos c]; simp
  · rw [if_neg c]
    by_cases d : xAct g (xWt g R (xSet g N R n 0 (g 65 n))) = 2
    · rw [if_pos d]; simp
    · rw [if_neg d]
      by_cases e : xAct g (xWt g R (xSet g N R n 0 (g 65 n))) = 1
      · rw [if_pos e]; simp
      · rw [if_neg e]; simp
theorem s_askM (hw : gW g N R) (hn : n < N) {K p : Int32} (hp : p = 0 ∨ p = 1) (hK : K = 0 ∨ K = 1 ∨ K = 2 ∨ K = 3) {τ : aSt} (hA : Ag g τ) (h0 : gI τ 57 46 = 0) : mOk g (fun i => (xTr K p).getD i 0) (xTr K p).length (xAsk g n K (xS g N R n) p) τ (if p = 0 then (f_X12_worthOf (nI n) K τ).bind (fun q12 => f_X12_ask_63 (q12.1) q12.2) else (f_X12_markOf (nI n) K τ).bind (fun q10 => f_X12_ask_63 (q10.1) q10.2)) := by
  have ht : ∀ T, tM T 0 τ := fun T => ⟨h0, fun i hi => absurd hi (Nat.not_lt_zero _)⟩
  have fin : ∀ (T : Nat → Int32) (t : Nat) (v : Int32) (r : Option (Int32 × aSt)), mOk g T t v τ r → mOk g T t v τ (r.bind (fun q1 => f_X12_ask_63 (q1.1) q1.2)) := by
    rintro T t v r ⟨τ2, q1, q2, q3, q4⟩
    exact ⟨τ2, by rw [q1]; rfl, q2, q3, q4⟩
  rcases hp with rfl | rfl
  · rw [if_pos rfl]
    rcases hK with rfl | rfl | rfl | rfl
    · exact fin _ _ _ _ (s_wo0 hw hn hA (ht _) (by decide) rfl)
    · exact fin _ _ _ _ (s_wo1 hw hn hA (ht _) (by decide) rfl rfl)
    · exact fin _ _ _ _ (s_wo2 hw hn hA (ht _) (by decide) rfl rfl rfl)
    · exact fin _ _ _ _ (s_wo3 hw hn hA (ht _) (by decide) rfl rfl rfl rfl)
  · rw [if_neg (by decide)]
    rcases hK with rfl | rfl | rfl | rfl
    · exact fin _ _ _ _ (s_mk0 hw hn hA (ht _) (by decide) rfl)
    · exact fin _ _ _ _ (s_mk1 hw hn hA (ht _) (by decide) rfl rfl rfl rfl)
    · exact fin _ _ _ _ (s_mk2 hw hn hA (ht _) (by decide) rfl rfl rfl rfl rfl rfl)
    · exact fin _ _ _ _ (s_mk3 hw hn hA (ht _) (by decide) rfl rfl)
end AM
theorem xTr_le (K p : Int32) : (xTr K p).length ≤ 16 := by
  unfold xTr
  split
  · split
    · decide
    · split
      · decide
      · split <;> decide
  · split
    · decide
    · split
      · decide
      · split <;> decide
theorem op_ask {σ : aSt} (h : Inv σ) (p1 p2 : Int32) : Op (f_X11_ask p1 p2) (f_X12_ask p1 p2) σ := by
  obtain ⟨N, b, R, hw, hc, hca, hp, hl⟩ := h.look p1
  have hA := Ag.self σ
  rcases hl with ⟨x1, x2⟩ | ⟨n, hn, x0, x1, x2⟩
  · refine ⟨-1000001, σ, sI σ 57 0 0, ?_, ?_, h.thr 0⟩
    · unfold f_X11_ask f_X11_ask_22
      rw [x1]
      rfl
    · unfold f_X12_ask f_X12_ask_27
      rw [x2 _ hA.th]
      rfl
  · have hN := hw.hN
    have hne : ¬ nI n = -1000000 := nI_noNone (by omega)
    by_cases c3 : 0 ≤ p2 ∧ p2 ≤ 1
    case neg =>
      refine ⟨-1000001, σ, sI σ 57 0 0, ?_, ?_, h.thr 0⟩
      · unfold f_X11_ask f_X11_ask_22
        rw [x1]
        simp only [Option.bind_some, oC_some]
        rw [s_within]
        simp only [Option.bind_some, bI_0, decide_eq_false_iff_not]
        rw [if_pos c3]
      · unfold f_X12_ask f_X12_ask_27
        rw [x2 _ hA.th]
        simp only [Option.bind_some]
        rw [if_neg hne, s_in 0 1 0 1 rfl rfl]
        simp only [Option.bind_some, bI_0, decide_eq_false_iff_not]
        rw [if_pos c3]
    have hp2 : p2 = 0 ∨ p2 = 1 := by
      obtain ⟨j, hj, rfl⟩ := ix_rng (N := 2) rfl rfl c3.1 c3.2
      rcases (by omega : j = 0 ∨ j = 1) with q | q <;> subst q
      · exact Or.inl rfl
      · exact Or.inr rfl
    obtain ⟨-, -, -, -, -, -, e6, e7⟩ := hp.2.2.2.2.2.1 n hn
    obtain ⟨σ1, a1, a2, -, a3⟩ := s_kind hw ⟨hc, pCa.of hca⟩ hn e7
    obtain ⟨σ2, b1, b2, -, b3⟩ := s_scoreOf hw a3 hn (kn := 0) (by omega)
    have f2 : Fr cSl σ σ2 := a2.tr b2
    have hI2 : Inv σ2 := h.ca hw (frSl f2) b3.2
    have hK4 := xKind_4 (g := vw σ) (N := N) (R := R) (n := n) (gI σ 67 n)
    generalize hK : xKind (vw σ) N R n (gI σ 67 n) = K at *
    obtain ⟨-, -, p2', -, p4', p5', -⟩ := b3.1.pay hn
    obtain ⟨σ3, d1, d2, d3⟩ := s_answer (g := vw σ) (sc := xS (vw σ) N R n) hp2 hK4 (b3.1.ok hn) p2' p4' p5'
    have f3 : Fr (fun a k => cSl a k ∨ a = 32 ∨ a = 33) σ σ3 := (f2.mono (fun a k q => Or.inl q)).tr (d3.mono (fun a k q => Or.inr q))
    have hA3 : Ag (vw σ) σ3 := hA.fr f3 (fun a k q => by
      rcases q with q | q
      · exact cSl_pers q
      · unfold pers
        simp only [Bool.or_eq_false_iff, Bool.and_eq_false_iff, decide_eq_false_iff_not]
        omega)
    have hA4 : Ag (vw σ) (sI (sI σ3 57 0 0) 57 46 0) := hA3.th.wr (cTM_pers (Or.inr ⟨rfl, rfl⟩))
    have e67 : gI (sI (sI σ3 57 0 0) 57 46 0) 67 n = gI σ 67 n := by rw [gI_other (Or.inl (by omega)), gI_other (Or.inl (by omega)), f3.2.1 67 n (by unfold cSl; omega)]
    obtain ⟨σ5, g1, g2, -, g3⟩ := s_kindM hw hA4 hn e67
    obtain ⟨σ6, k1, k2, k3, k4⟩ := s_askM hw hn hp2 hK4 g3 (by rw [g2.2.1 57 46 (by omega), gI_same])
    refine ⟨xAsk (vw σ) n K (xS (vw σ) N R n) p2, σ3, σ6, ?_, ?_, ?_⟩
    · unfold f_X11_ask
      rw [x1]
      simp only [Option.bind_some, oC_some]
      rw [s_within]
      simp only [Option.bind_some, bI_0, decide_eq_false_iff_not]
      rw [if_neg (not_not_intro c3), a1]
      simp only [Option.bind_some]
      rw [show f_X2_scoreOf (84 + n) 0 σ1 = _ from b1]
      simp only [Option.bind_some]
      rw [show f_X0_answer p2 (84 + n) K (xWt (vw σ) R (xSet (vw σ) N R n 0 (vw σ 65 n))) σ2 = _ from d1]
      rfl
    · unfold f_X12_ask
      rw [x2 _ hA3.th]
      simp only [Option.bind_some]
      rw [if_neg hne, s_in 0 1 0 1 rfl rfl]
      simp only [Option.bind_some, bI_0, decide_eq_false_iff_not]
      rw [if_neg (not_not_intro c3), g1, hK]
      simp only [Option.bind_some]
      exact k1
    · have hf : Fr cTr σ2 σ6 := by
        refine (d3.mono (fun a k q => ?_)).tr (Fr.tr (Fr.sI (Fr.sI Fr.rf ?_) ?_) ((g2.mono (fun a k q => ?_)).tr (k4.mono (fun a k q => ?_))))
        · unfold cTr; omega
        · unfold cTr; exact Or.inl scr570
        · unfold cTr; omega
        · unfold cTr; rw [q]; exact Or.inl scr69
        · unfold cTN at q
          unfold cTr
          rcases q with q | q | q
          · omega
          · omega
          · rw [q]; exact Or.inl scr69
      have f36 : Fr (fun a k => a = 57 ∨ a = 69 ∨ a = 83) σ3 σ6 := by
        refine Fr.tr (Fr.sI (Fr.sI Fr.rf ?_) ?_) ((g2.mono (fun a k q => ?_)).tr (k4.mono (fun a k q => ?_)))
        · omega
        · omega
        · omega
        · unfold cTN at q
          omega
      refine hI2.tr hf ⟨(xTr K p2).length, xTr_le K p2, ?_, k3.1, fun i hi => ?_⟩
      · rw [f36.2.1 32 1 (by omega)]
        exact d2.1
      · rw [f36.2.1 33 i (by omega), d2.2 i hi, k3.2 i hi]
