/-! ===== the class reads rules and limits ===== -/
/-- a rule's cells at place r of the book at b: weight from the token at w, c tests from p0 on -/
def rowC (t : Nat → Nat) (n b r w p0 c : Nat) (τ : aSt) : Prop := gI τ (b + 2) r = Vt t n w ∧ gI τ (b + 3) r = nI c ∧ ∀ j, j < c → gI τ (b + 4) (4 * r + j) = Vt t n (tq t n p0 j) - 7 ∧ gI τ (b + 5) (4 * r + j) = Vt t n (nx t n (tq t n p0 j)) ∧ gI τ (b + 6) (4 * r + j) = Vt t n (nx t n (nx t n (tq t n p0 j)))
section C2
variable {t : Nat → Nat} {n M b : Nat} {τ : aSt}
/-- cells that a test writes -/
def cTe (b R j a k : Nat) : Prop := (a = b + 3 ∧ k = R) ∨ ((a = b + 4 ∨ a = b + 5 ∨ a = b + 6) ∧ k = 4 * R + j)
theorem s_addTest (hb : b = 12 ∨ b = 34) (hg : 84 ≤ gN τ) {R j : Nat} (hR : R < 12) (hj : j < 4) (e1 : gI τ b 1 = nI (R + 1)) (e3 : gI τ (b + 3) R = nI j) (F S V : Int32) : ∃ τ', f_X8_addTest b F S V τ = some ((), τ') ∧ Fr (cTe b R j) τ τ' ∧ gI τ' (b + 3) R = nI (j + 1) ∧ gI τ' (b + 4) (4 * R + j) = F ∧ gI τ' (b + 5) (4 * R + j) = S ∧ gI τ' (b + 6) (4 * R + j) = V := by
  obtain ⟨k0, k1, k2, k3, k4, k5, k6, l1, l2, l3, l4, l5, l6⟩ := bk_ok b hb
  have ok : aSh b = 8 ∧ b < gN τ := ⟨k0, by omega⟩
  have cl : (nI R).toNatClampNeg = R := ix_cl (by omega)
  have cm : (nI R * 4 + nI j) = nI (4 * R + j) := by rw [show (4 : Int32) = nI 4 from rfl, pk_mul, nI_add, Nat.mul_comm]
  have cl2 : (nI (4 * R + j)).toNatClampNeg = 4 * R + j := ix_cl (by omega)
  have ib3 : inB (nI R) 12 := ix_in hR (by omega)
  have ib4 : inB (nI (4 * R + j)) 48 := ix_in (by omega) (by omega)
  refine ⟨sI (sI (sI (sI τ (b + 4) (4 * R + j) F) (b + 5) (4 * R + j) S) (b + 6) (4 * R + j) V) (b + 3) R (nI (j + 1)), ?_, ?_, gI_same _ _ _ _, ?_, ?_, ?_⟩
  · unfold f_X8_addTest f_X8_addTest_63
    have g3 : ∀ x y z, gI (sI (sI (sI τ (b + 4) (4 * R + j) x) (b + 5) (4 * R + j) y) (b + 6) (4 * R + j) z) (b + 3) R = nI j := fun x y z => by
      rw [gI_other (Or.inl (by omega)), gI_other (Or.inl (by omega)), gI_other (Or.inl (by omega))]
      exact e3
    have s3 : aSh (b + 3) = 13 ∧ b + 3 < gN τ := ⟨k3, by omega⟩
    have s4 : aSh (b + 4) = 13 ∧ b + 4 < gN τ := ⟨k4, by omega⟩
    have s5 : ∀ x, aSh (b + 5) = 13 ∧ b + 5 < gN (sI τ (b + 4) (4 * R + j) x) := fun x => ⟨k5, by show _ < gN τ; omega⟩
    have s6 : ∀ x y, aSh (b + 6) = 13 ∧ b + 6 < gN (sI (sI τ (b + 4) (4 * R + j) x) (b + 5) (4 * R + j) y) := fun x y => ⟨k6, by show _ < gN τ; omega⟩
    have ok' : ∀ x y z, aSh b = 8 ∧ b < gN (sI (sI (sI τ (b + 4) (4 * R + j) x) (b + 5) (4 * R + j) y) (b + 6) (4 * R + j) z) := fun x y z => ok
    have s3' : ∀ x y z, aSh (b + 3) = 13 ∧ b + 3 < gN (sI (sI (sI τ (b + 4) (4 * R + j) x) (b + 5) (4 * R + j) y) (b + 6) (4 * R + j) z) := fun x y z => s3
    rw [if_pos ok, e1, nI_s1, if_neg (nI_neg (by omega)), if_pos s3, l3, if_pos ib3]
    have hj4 : nI j < 4 := by rw [show (4 : Int32) = nI 4 from rfl, nI_ltI (by omega) (by omega)]; exact hj
    simp only [cl, e3, cm, cl2, if_pos hj4, l4, l5, l6, if_pos ib3, if_pos s4, if_pos ib4, if_pos (s5 F), if_pos (s6 F S), if_pos (ok' F S V), if_pos (s3' F S V), g3, nI_1]
  · refine Fr.sI (Fr.sI (Fr.sI (Fr.sI Fr.rf ?_) ?_) ?_) ?_ <;> simp [cTe]
  · rw [gI_other (Or.inl (by omega)), gI_other (Or.inl (by omega)), gI_other (Or.inl (by omega)), gI_same]
  · rw [gI_other (Or.inl (by omega)), gI_other (Or.inl (by omega)), gI_same]
  · rw [gI_other (Or.inl (by omega)), gI_same]
/-- what reading one test may write -/
def cRT (b R j a k : Nat) : Prop := cGo a k ∨ cTe b R j a k
theorem ptf_F {p : Nat} (h : okF t n p = false) : ptf t n p = (1, p) := by unfold ptf; rw [h]; rfl
theorem ptf_S {p : Nat} (h : okF t n p = true) (h2 : okS t n (nx t n p) = false) : ptf t n p = (1, nx t n p) := by unfold ptf; rw [h, h2]; rfl
theorem ptf_N {p : Nat} (h : okF t n p = true) (h2 : okS t n (nx t n p) = true) : ptf t n p = (pnum t n 0 999999 (nx t n (nx t n p)), nx t n (nx t n p)) := by unfold ptf; rw [h, h2]; rfl
theorem s_rtest (hb : b = 12 ∨ b = 34) (hg : 84 ≤ gN τ) (hr : gR τ 10 3 = some b) {R j : Nat} (hR : R < 12) (hj : j < 4) (e1 : gI τ b 1 = nI (R + 1)) (e3 : gI τ (b + 3) R = nI j) {a p : Nat} (h : cP t n M a p τ) : ((ptf t n p).1 = 0 ∧ ∃ τ' a', f_X6_readTest τ = some (1, τ') ∧ Fr (cRT b R j) τ τ' ∧ cP t n M a' (ptn t n p) τ' ∧ gI τ' (b + 3) R = nI (j + 1) ∧ gI τ' (b + 4) (4 * R + j) = Vt t n p - 7 ∧ gI τ' (b + 5) (4 * R + j) = Vt t n (nx t n p) ∧ gI τ' (b + 6) (4 * R + j) = Vt t n (nx t n (nx t n p))) ∨ ((ptf t n p).1 ≠ 0 ∧ ∃ τ', f_X6_readTest τ = some (0, τ') ∧ Fr (cRT b R j) τ τ' ∧ flt (ptf t n p).1 (ptf t n p).2 τ') := by
  have hle := h.le
  have h0 := h
  obtain ⟨h1, h2, h3, h4, h5, h6, h7⟩ := h
  unfold f_X6_readTest
  rw [h6, h7]
  obtain ⟨τf, w1, w2, w3⟩ := s_fail h0 1
  have e22 : f_X6_readTest_22 τ = some (0, τf) := by
    unfold f_X6_readTest_22
    rw [show f_X6_fail 1 τ = _ from w1, Option.bind_some]
    exact if_pos v0_ok
  have bad0 : ∃ τ', (some (0, τf) : Option (Int32 × aSt)) = some (0, τ') ∧ Fr (cRT b R j) τ τ' ∧ flt 1 p τ' := ⟨τf, rfl, w2.mono (fun a k q => Or.inl q), w3⟩
  by_cases c : Kt t n p = 1
  case neg =>
    rw [if_neg (fun z => c (K1_iff.mp z)), e22, ptf_F (show okF t n p = false by unfold okF; rw [decide_eq_false c, Bool.false_and])]
    exact Or.inr ⟨by show (1 : Nat) ≠ 0; decide, bad0⟩
  rw [if_pos (K1_iff.mpr c), s_within, Option.bind_some]
  simp only [bI_0, decide_eq_false_iff_not]
  by_cases d : 7 ≤ Vt t n p ∧ Vt t n p ≤ 16
  case neg =>
    rw [if_pos d, e22, ptf_F (show okF t n p = false by unfold okF; rw [← Bool.decide_and, decide_eq_false d, Bool.and_false])]
    exact Or.inr ⟨by show (1 : Nat) ≠ 0; decide, bad0⟩
  have hF : okF t n p = true := by unfold okF; rw [← Bool.decide_and, decide_eq_true d, decide_eq_true c]; rfl
  rw [if_neg (not_not_intro d)]
  have hpn : p < n := by have := (Kt_1 c).1; omega
  obtain ⟨τ1, a1, g1, g2, g3⟩ := s_goOn h0 hpn
  rw [g1, Option.bind_some, g3.2.2.2.2.2.1, g3.2.2.2.2.2.2]
  have hle1 := g3.le
  obtain ⟨τ2, y1, y2, y3⟩ := s_fail g3 1
  have e57 : f_X6_readTest_57 τ1 = some (0, τ2) := by
    unfold f_X6_readTest_57
    rw [show f_X6_fail 1 τ1 = _ from y1, Option.bind_some]
    exact if_pos v0_ok
  have bad1 : ∃ τ', (some (0, τ2) : Option (Int32 × aSt)) = some (0, τ') ∧ Fr (cRT b R j) τ τ' ∧ flt 1 (nx t n p) τ' := ⟨τ2, rfl, (g2.tr y2).mono (fun a k q => Or.inl q), y3⟩
  by_cases c2 : Kt t n (nx t n p) = 3
  case neg =>
    rw [if_neg (fun z => c2 (K3_iff.mp z)), e57, ptf_S hF (show okS t n (nx t n p) = false by unfold okS; rw [decide_eq_false c2, Bool.false_and])]
    exact Or.inr ⟨by show (1 : Nat) ≠ 0; decide, bad1⟩
  rw [if_pos (K3_iff.mpr c2)]
  by_cases d2 : Vt t n (nx t n p) = 59
  · rw [if_pos d2, e57, ptf_S hF (show okS t n (nx t n p) = false by unfold okS; rw [decide_eq_false (not_not_intro d2), Bool.and_false])]
    exact Or.inr ⟨by show (1 : Nat) ≠ 0; decide, bad1⟩
  rw [if_neg d2, ptf_N hF (show okS t n (nx t n p) = true by unfold okS; rw [decide_eq_true d2, decide_eq_true c2]; rfl)]
  have hpn1 : nx t n p < n := by have := (Kt_3 c2).1; omega
  obtain ⟨τ3, a3, z1, z2, z3⟩ := s_goOn g3 hpn1
  rw [z1, Option.bind_some]
  have fr3 : Fr cGo τ τ3 := g2.tr z2
  rcases s_hasNum z3 0 999999 with ⟨n0, n1, n2⟩ | ⟨n0, τ4, n1, n2, n3⟩
  · rw [n2, Option.bind_some, if_neg (show ¬ (1 : Int32) = 0 by decide), fr3.2.2 10 3 (by simp [cGo]), hr]
    simp only [oC_some]
    have hg3 : 84 ≤ gN τ3 := by rw [fr3.1]; exact hg
    rw [if_pos ⟨(bk_ok b hb).1, by omega⟩, z3.2.2.2.2.2.2]
    obtain ⟨τ5, u1, u2, u3, u4, u5, u6⟩ := s_addTest hb hg3 hR hj (by rw [fr3.2.1 b 1 (by unfold cGo; omega)]; exact e1) (by rw [fr3.2.1 (b + 3) R (by unfold cGo; omega)]; exact e3) (Vt t n p - 7) (Vt t n (nx t n p)) (Vt t n (nx t n (nx t n p)))
    rw [h7, u1, Option.bind_some]
    have hc5 : cP t n M a3 (nx t n (nx t n p)) τ5 := z3.fr u2 (fun a k q => by unfold cTe at q; omega)
    obtain ⟨τ6, a6, v1, v2, v3⟩ := s_goOn hc5 n1
    have g10 : ∀ x k, x ≠ 10 → gI τ6 x k = gI τ5 x k := fun x k hx => v2.2.1 x k (by unfold cGo; omega)
    refine Or.inl ⟨n0, τ6, a6, by rw [v1]; rfl, ?_, v3, by rw [g10 _ _ (by omega)]; exact u3, by rw [g10 _ _ (by omega)]; exact u4, by rw [g10 _ _ (by omega)]; exact u5, by rw [g10 _ _ (by omega)]; exact u6⟩
    exact (fr3.mono (fun a k q => Or.inl q)).tr ((u2.mono (fun a k q => Or.inr q)).tr (v2.mono (fun a k q => Or.inl q)))
  · rw [n1, Option.bind_some, if_pos rfl]
    exact Or.inr ⟨n0, τ4, rfl, (fr3.tr n2).mono (fun a k q => Or.inl q), n3⟩
/-- what reading a rule at place R may write -/
def cRu (b R a k : Nat) : Prop := cGo a k ∨ (a = b ∧ k = 1) ∨ ((a = b + 2 ∨ a = b + 3) ∧ k = R) ∨ ((a = b + 4 ∨ a = b + 5 ∨ a = b + 6) ∧ 4 * R ≤ k ∧ k < 4 * R + 4)
/-- the same, but for the count of rules -/
def cRw (b R a k : Nat) : Prop := cGo a k ∨ ((a = b + 2 ∨ a = b + 3) ∧ k = R) ∨ ((a = b + 4 ∨ a = b + 5 ∨ a = b + 6) ∧ 4 * R ≤ k ∧ k < 4 * R + 4)
theorem cRw_Ru {R a k : Nat} (h : cRw b R a k) : cRu b R a k := by
  rcases h with q | q | q
  · exact Or.inl q
  · exact Or.inr (Or.inr (Or.inl q))
  · exact Or.inr (Or.inr (Or.inr q))
theorem cRT_Ru {R j a k : Nat} (hj : j < 4) (h : cRT b R j a k) : cRw b R a k := by
  unfold cRT cTe at h
  unfold cRw
  rcases h with q | q | q
  · exact Or.inl q
  · exact Or.inr (Or.inl (by omega))
  · exact Or.inr (Or.inr (by omega))
theorem s_rule66 (hb : b = 12 ∨ b = 34) {R : Nat} (hR : R < 12) {w p0 : Nat} : ∀ (d j f : Nat) (τ : aSt) (a q : Nat), j + d = 4 → d < f → 84 ≤ gN τ → gR τ 10 3 = some b → gI τ b 1 = nI (R + 1) → rowC t n b R w p0 j τ → cP t n M a q τ → q < n → nx t n q = tq t n p0 j → (0 < j → q = ptn t n (tq t n p0 (j - 1))) → ((plp t n p0 d j).1 = 0 ∧ ∃ τ' a', f_X6_readRule_66 f (nI j) τ = some (1, τ') ∧ Fr (cRw b R) τ τ' ∧ cP t n M a' (plp t n p0 d j).2.1 τ' ∧ rowC t n b R w p0 (plp t n p0 d j).2.2 τ' ∧ 1 ≤ (plp t n p0 d j).2.2 ∧ (plp t n p0 d j).2.2 ≤ 4) ∨ ((plp t n p0 d j).1 ≠ 0 ∧ ∃ τ', f_X6_readRule_66 f (nI j) τ = some (0, τ') ∧ Fr (cRw b R) τ τ' ∧ flt (plp t n p0 d j).1 (plp t n p0 d j).2.1 τ') := by
  intro d
  induction d with
  | zero =>
    intro j f τ a q hjd hf hg hr e1 hrow h hq hnq hqj
    obtain ⟨f, rfl⟩ : ∃ f', f = f' + 1 := ⟨f - 1, by omega⟩
    show (_ ∧ ∃ τ' a', f_X6_readRule_66_b (f_X6_readRule_66 f) (nI j) τ = _ ∧ _) ∨ (_ ∧ ∃ τ', f_X6_readRule_66_b (f_X6_readRule_66 f) (nI j) τ = _ ∧ _)
    unfold f_X6_readRule_66_b
    have ej : j = 4 := by omega
    rw [if_pos (show (4 : Int32) ≤ nI j by rw [ej]; exact Int32.le_refl _)]
    obtain ⟨τ1, k1, k2, k3⟩ := s_fail h 3
    refine Or.inr ⟨by show (3 : Nat) ≠ 0; decide, τ1, ?_, k2.mono (fun a k q => Or.inl q), ?_⟩
    · rw [show f_X6_fail 3 τ = _ from k1, Option.bind_some]
      exact if_pos v0_ok
    · show flt 3 (ptn t n (tq t n p0 (j - 1))) τ1
      rw [← hqj (by omega)]
      exact k3
  | succ d ih =>
    intro j f τ a q hjd hf hg hr e1 hrow h hq hnq hqj
    obtain ⟨f, rfl⟩ : ∃ f', f = f' + 1 := ⟨f - 1, by omega⟩
    have ep : plp t n p0 (d + 1) j = if (ptf t n (tq t n p0 j)).1 = 0 then (if okW t n (ptn t n (tq t n p0 j)) 6 then plp t n p0 d (j + 1) else if okE t n (ptn t n (tq t n p0 j)) then (0, nx t n (ptn t n (tq t n p0 j)), j + 1) else (1, ptn t n (tq t n p0 j), j + 1)) else ((ptf t n (tq t n p0 j)).1, (ptf t n (tq t n p0 j)).2, j) := rfl
    rw [ep]
    show (_ ∧ ∃ τ' a', f_X6_readRule_66_b (f_X6_readRule_66 f) (nI j) τ = _ ∧ _) ∨ (_ ∧ ∃ τ', f_X6_readRule_66_b (f_X6_readRule_66 f) (nI j) τ = _ ∧ _)
    unfold f_X6_readRule_66_b
    rw [if_neg (show ¬ (4 : Int32) ≤ nI j by rw [show (4 : Int32) = nI 4 from rfl, nI_leI (by omega) (by omega)]; omega)]
    obtain ⟨τ1, a1, g1, g2, g3⟩ := s_goOn h hq
    rw [hnq] at g3
    rw [g1, Option.bind_some]
    have g10 : ∀ x k, x ≠ 10 → gI τ1 x k = gI τ x k := fun x k hx => g2.2.1 x k (by unfold cGo; omega)
    have e3 : gI τ1 (b + 3) R = nI j := by rw [g10 _ _ (by omega)]; exact hrow.2.1
    rcases s_rtest hb (by rw [g2.1]; exact hg) (by rw [g2.2.2 10 3 (by simp [cGo])]; exact hr) hR (show j < 4 by omega) (by rw [g10 _ _ (by omega)]; exact e1) e3 g3 with ⟨t0, τ2, a2, t1, t2, t3, t4, t5, t6, t7⟩ | ⟨t0, τ2, t1, t2, t3⟩
    case inr =>
      rw [if_neg t0, t1, Option.bind_some, if_pos (show (0 : Int32) = 0 from rfl)]
      exact Or.inr ⟨t0, τ2, rfl, (g2.mono (fun a k q => Or.inl q)).tr (t2.mono (fun a k q => cRT_Ru (by omega) q)), t3⟩
    rw [if_pos t0, t1, Option.bind_some, if_neg (show ¬ (1 : Int32) = 0 by decide), show f_X6_isWord 6 τ2 = _ from s_isWd (k := 6) t3, Option.bind_some]
    simp only [bI_0]
    have f2 : Fr (cRw b R) τ τ2 := (g2.mono (fun a k q => Or.inl q)).tr (t2.mono (fun a k q => cRT_Ru (by omega) q))
    have old : ∀ x k, (x = b ∨ x = b + 2 ∨ (b + 4 ≤ x ∧ x ≤ b + 6 ∧ k < 4 * R + j)) → gI τ2 x k = gI τ x k := fun x k hx => by
      rw [t2.2.1 x k (by unfold cRT cGo cTe; omega), g10 x k (by omega)]
    have row2 : rowC t n b R w p0 (j + 1) τ2 := by
      refine ⟨by rw [old _ _ (by omega)]; exact hrow.1, t4, fun i hi => ?_⟩
      by_cases ei : i = j
      · rw [ei]; exact ⟨t5, t6, t7⟩
      · rw [old _ _ (by omega), old _ _ (by omega), old _ _ (by omega)]
        exact hrow.2.2 i (by omega)
    by_cases c : okW t n (ptn t n (tq t n p0 j)) 6 = true
    · rw [if_pos c, if_neg (show ¬ okW t n (ptn t n (tq t n p0 j)) 6 = false by rw [c]; decide), nI_1]
      have hle := t3.le
      have hk : Kt t n (ptn t n (tq t n p0 j)) = 1 := by
        unfold okW at c
        simp only [Bool.and_eq_true, decide_eq_true_iff] at c
        exact c.1
      have hne := (Kt_1 hk).1
      rcases ih (j + 1) f τ2 a2 (ptn t n (tq t n p0 j)) (by omega) (by omega) (by rw [f2.1]; exact hg) (by rw [f2.2.2 10 3 (by unfold cRw cGo; omega)]; exact hr) (by rw [old _ _ (by omega)]; exact e1) row2 t3 (by omega) rfl (fun _ => rfl) with ⟨y0, τ3, a3, y1, y2, y3⟩ | ⟨y0, τ3, y1, y2, y3⟩
      · exact Or.inl ⟨y0, τ3, a3, y1, f2.tr y2, y3⟩
      · exact Or.inr ⟨y0, τ3, y1, f2.tr y2, y3⟩
    · rw [if_neg c, if_pos (bfalse c)]
      rcases s_passEnd t3 with ⟨y0, τ3, a3, y1, y2, y3⟩ | ⟨y0, τ3, y1, y2, y3⟩
      · rw [if_pos y0, y1, Option.bind_some]
        have g10' : ∀ x k, x ≠ 10 → gI τ3 x k = gI τ2 x k := fun x k hx => y2.2.1 x k (by unfold cGo; omega)
        refine Or.inl ⟨rfl, τ3, a3, if_pos v1_ok, f2.tr (y2.mono (fun a k q => Or.inl q)), y3, ⟨by rw [g10' _ _ (by omega)]; exact row2.1, by rw [g10' _ _ (by omega)]; exact row2.2.1, fun i hi => ?_⟩, by show 1 ≤ j + 1; omega, by show j + 1 ≤ 4; omega⟩
        rw [g10' _ _ (by omega), g10' _ _ (by omega), g10' _ _ (by omega)]
        exact row2.2.2 i hi
      · rw [if_neg (show ¬ okE t n (ptn t n (tq t n p0 j)) = true by rw [y0]; decide), y1, Option.bind_some]
        exact Or.inr ⟨by show (1 : Nat) ≠ 0; decide, τ3, if_pos v0_ok, f2.tr (y2.mono (fun a k q => Or.inl q)), y3⟩
end C2
