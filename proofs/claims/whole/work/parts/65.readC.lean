/-! ===== the class reads ===== -/
section PP
variable (t : Nat → Nat) (n : Nat)
def okF (p : Nat) : Bool := decide (Kt t n p = 1) && (decide (7 ≤ Vt t n p) && decide (Vt t n p ≤ 16))
def okS (p : Nat) : Bool := decide (Kt t n p = 3) && decide (¬ Vt t n p = 59)
def okE (p : Nat) : Bool := decide (Kt t n p = 3) && decide (Vt t n p = 59)
def okW (p k : Nat) : Bool := decide (Kt t n p = 1) && decide (Vt t n p = nI k)
/-- a test: its fault and where -/
def ptf (p : Nat) : Nat × Nat := if okF t n p then (if okS t n (nx t n p) then (pnum t n 0 999999 (nx t n (nx t n p)), nx t n (nx t n p)) else (1, nx t n p)) else (1, p)
def ptn (p : Nat) : Nat := nx t n (nx t n (nx t n p))
def tq (p0 : Nat) : Nat → Nat
  | 0 => p0
  | j + 1 => nx t n (ptn t n (tq p0 j))
/-- tests, from the j-th on: fault, where (or where to go on), how many -/
def plp (p0 : Nat) : Nat → Nat → Nat × Nat × Nat
  | 0, j => (3, ptn t n (tq t n p0 (j - 1)), j)
  | d + 1, j => if (ptf t n (tq t n p0 j)).1 = 0 then (if okW t n (ptn t n (tq t n p0 j)) 6 then plp p0 d (j + 1) else if okE t n (ptn t n (tq t n p0 j)) then (0, nx t n (ptn t n (tq t n p0 j)), j + 1) else (1, ptn t n (tq t n p0 j), j + 1)) else ((ptf t n (tq t n p0 j)).1, (ptf t n (tq t n p0 j)).2, j)
end PP
/-- the class's reader stands at the a-th token, at p -/
def cP (t : Nat → Nat) (n M a p : Nat) (τ : aSt) : Prop := toks t n M τ ∧ n ≤ 600 ∧ a ≤ M ∧ ps t n a = p ∧ gI τ 10 4 = nI a ∧ gI τ 10 5 = nI (Kt t n p) ∧ gI τ 10 6 = Vt t n p
def cGo (a k : Nat) : Prop := a = 10 ∧ k ≠ 3
def flt (f q : Nat) (τ : aSt) : Prop := gI τ 10 0 = nI f ∧ gI τ 10 1 = nI q
section CR
variable {t : Nat → Nat} {n M : Nat} {τ : aSt}
theorem toks.fr {C : Nat → Nat → Prop} {τ' : aSt} (h : toks t n M τ) (f : Fr C τ τ') (hc : ∀ a k, C a k → a < 6 ∨ 8 < a) : toks t n M τ' := by
  refine ⟨h.1, h.2.1, h.2.2.1, fun k hk => ?_⟩
  obtain ⟨a, b, c⟩ := h.2.2.2 k hk
  exact ⟨by rw [f.2.1 6 k (fun z => by have := hc _ _ z; omega)]; exact a, by rw [f.2.1 7 k (fun z => by have := hc _ _ z; omega)]; exact b, by rw [f.2.1 8 k (fun z => by have := hc _ _ z; omega)]; exact c⟩
theorem cP.fr {C : Nat → Nat → Prop} {τ' : aSt} {a p : Nat} (h : cP t n M a p τ) (f : Fr C τ τ') (hc : ∀ a k, C a k → 10 < a ∨ (a = 10 ∧ k < 4)) : cP t n M a p τ' := by
  obtain ⟨h1, h2, h3, h4, h5, h6, h7⟩ := h
  have g : ∀ k, 4 ≤ k → gI τ' 10 k = gI τ 10 k := fun k hk => f.2.1 10 k (fun z => by have := hc _ _ z; omega)
  exact ⟨h1.fr f (fun a k q => by have := hc a k q; omega), h2, h3, h4, by rw [g 4 (by omega)]; exact h5, by rw [g 5 (by omega)]; exact h6, by rw [g 6 (by omega)]; exact h7⟩
theorem cP.le {a p : Nat} (h : cP t n M a p τ) : p ≤ n := by
  obtain ⟨h1, h2, h3, h4, -⟩ := h
  by_cases e : a = M
  · rw [← h4, e, h1.2.1]; exact Nat.le_refl _
  · have := h1.2.2.1 a (by omega)
    rw [h4] at this
    omega
theorem s_goTo {k : Nat} (h : toks t n M τ) (hn : n ≤ 600) (hk : k ≤ M) : ∃ τ', f_X6_goTo (nI k) τ = some ((), τ') ∧ Fr cGo τ τ' ∧ cP t n M k (ps t n k) τ' := by
  have hM := h.1
  obtain ⟨c1, c2, c3⟩ := h.2.2.2 k hk
  have ib : inB (nI k) 601 := ix_in (by omega) (by omega)
  have cl : (nI k).toNatClampNeg = k := ix_cl (by omega)
  have f1 : Fr cGo τ (sI (sI (sI τ 10 4 (nI k)) 10 5 (nI (Kt t n (ps t n k)))) 10 6 (Vt t n (ps t n k))) := by
    refine Fr.sI (Fr.sI (Fr.sI Fr.rf ?_) ?_) ?_ <;> simp [cGo]
  refine ⟨_, ?_, f1, h.fr f1 (fun a k q => by unfold cGo at q; omega), hn, hk, rfl, ?_, ?_, ?_⟩
  · unfold f_X6_goTo f_X6_goTo_42
    have e6 : ∀ v, gI (sI τ 10 4 v) 6 k = nI (Kt t n (ps t n k)) := fun v => by rw [gI_other (Or.inl (by omega))]; exact c1
    have e7 : ∀ v w, gI (sI (sI τ 10 4 v) 10 5 w) 7 k = Vt t n (ps t n k) := fun v w => by rw [gI_other (Or.inl (by omega)), gI_other (Or.inl (by omega))]; exact c2
    rw [if_neg (nI_neg (by omega)), if_neg (show ¬ (600 : Int32) < nI k by rw [show (600 : Int32) = nI 600 from rfl, nI_ltI (by omega) (by omega)]; omega), if_pos ib, if_pos ib]
    simp only [cl, e6, e7]
  · rw [gI_other (Or.inr (by omega)), gI_other (Or.inr (by omega)), gI_same]
  · rw [gI_other (Or.inr (by omega)), gI_same]
  · rw [gI_same]
theorem s_goOn {a p : Nat} (h : cP t n M a p τ) (hp : p < n) : ∃ τ' a', f_X6_goOn τ = some ((), τ') ∧ Fr cGo τ τ' ∧ cP t n M a' (nx t n p) τ' := by
  obtain ⟨h1, h2, h3, h4, h5, h6, h7⟩ := h
  have hlt : a < M := by
    refine Classical.byContradiction (fun z => ?_)
    have e : a = M := by omega
    rw [e, h1.2.1] at h4
    omega
  obtain ⟨τ1, k1, k2, k3⟩ := s_goTo (k := a + 1) h1 h2 (by omega)
  have ep : ps t n (a + 1) = nx t n p := by
    show (if ps t n a = n then n else sk t n (en t n (ps t n a))) = _
    rw [h4, if_neg (by omega)]
    rfl
  rw [ep] at k3
  refine ⟨τ1, a + 1, ?_, k2, k3⟩
  unfold f_X6_goOn f_X6_goOn_18
  have hk : ¬ nI (Kt t n p) = 4 := fun z => by
    have z' := nI_inj (by have := Kt_le (t := t) (n := n) p; omega) (by omega) (show nI (Kt t n p) = nI 4 from z)
    unfold Kt at z'
    rw [if_neg (show ¬ p = n by omega)] at z'
    repeat' split at z'
    all_goals omega
  rw [h6, if_neg hk, h5, nI_1, k1]
  rfl
theorem s_fail {a p : Nat} (h : cP t n M a p τ) (f : Nat) : ∃ τ', f_X6_fail (nI f) τ = some (0, τ') ∧ Fr cGo τ τ' ∧ flt f p τ' := by
  obtain ⟨h1, h2, h3, h4, h5, h6, h7⟩ := h
  have hM := h1.1
  obtain ⟨c1, c2, c3⟩ := h1.2.2.2 a h3
  refine ⟨sI (sI τ 10 0 (nI f)) 10 1 (nI p), ?_, ?_, ?_, gI_same _ _ _ _⟩
  · unfold f_X6_fail
    have e4 : gI (sI τ 10 0 (nI f)) 10 4 = nI a := by rw [gI_other (Or.inr (by omega))]; exact h5
    have e8 : gI (sI τ 10 0 (nI f)) 8 a = nI p := by rw [gI_other (Or.inl (by omega)), c3, h4]
    rw [e4, if_pos (ix_in (by omega) (by omega)), ix_cl (by omega), e8]
  · refine Fr.sI (Fr.sI Fr.rf ?_) ?_ <;> simp [cGo]
  · rw [gI_other (Or.inr (by omega)), gI_same]
theorem s_hasNum {a p : Nat} (h : cP t n M a p τ) (lo hi : Int32) : (pnum t n lo hi p = 0 ∧ p < n ∧ f_X6_hasNumber lo hi τ = some (1, τ)) ∨ (pnum t n lo hi p ≠ 0 ∧ ∃ τ', f_X6_hasNumber lo hi τ = some (0, τ') ∧ Fr cGo τ τ' ∧ flt (pnum t n lo hi p) p τ') := by
  have hle := h.le
  have h0 := h
  obtain ⟨h1, h2, h3, h4, h5, h6, h7⟩ := h
  unfold f_X6_hasNumber f_X6_hasNumber_34 f_X6_hasNumber_39 pnum
  rw [h6, h7]
  by_cases c : Kt t n p = 2
  · rw [if_pos (show nI (Kt t n p) = 2 by rw [c]; rfl), if_pos c, s_within, Option.bind_some]
    simp only [bI_0, decide_eq_false_iff_not]
    have hne := (Kt_2 c).1
    by_cases d : lo ≤ Vt t n p ∧ Vt t n p ≤ hi
    · rw [if_neg (not_not_intro d), if_pos d, if_pos v1_ok]
      exact Or.inl ⟨rfl, by omega, rfl⟩
    · rw [if_pos d, if_neg d]
      obtain ⟨τ1, k1, k2, k3⟩ := s_fail h0 2
      refine Or.inr ⟨by decide, τ1, ?_, k2, k3⟩
      rw [show f_X6_fail 2 τ = _ from k1, Option.bind_some]
      rfl
  · have hk : ¬ nI (Kt t n p) = 2 := fun z => c (nI_inj (by have := Kt_le (t := t) (n := n) p; omega) (by omega) (show nI (Kt t n p) = nI 2 from z))
    rw [if_neg hk, if_neg c]
    obtain ⟨τ1, k1, k2, k3⟩ := s_fail h0 1
    refine Or.inr ⟨by decide, τ1, ?_, k2, k3⟩
    rw [show f_X6_fail 1 τ = _ from k1, Option.bind_some]
    exact if_pos v0_ok
theorem s_isWd {a p k : Nat} (h : cP t n M a p τ) : f_X6_isWord (nI k) τ = some (bI (okW t n p k), τ) := by
  obtain ⟨h1, h2, h3, h4, h5, h6, h7⟩ := h
  unfold f_X6_isWord f_X6_isWord_20 f_X6_isWord_21 okW
  rw [h6, h7, if_pos v0_ok, if_pos v1_ok]
  have e : (nI (Kt t n p) = 1) ↔ Kt t n p = 1 := ⟨fun z => nI_inj (by have := Kt_le (t := t) (n := n) p; omega) (by omega) (show nI (Kt t n p) = nI 1 from z), fun z => by rw [z]; rfl⟩
  by_cases c : Kt t n p = 1
  · rw [if_pos (e.mpr c), decide_eq_true c]
    by_cases d : Vt t n p = nI k
    · rw [if_pos d, decide_eq_true d]; rfl
    · rw [if_neg d, decide_eq_false d]; rfl
  · rw [if_neg (fun z => c (e.mp z)), decide_eq_false c]; rfl
theorem K3_iff {p : Nat} : (nI (Kt t n p) = 3) ↔ Kt t n p = 3 := ⟨fun z => nI_inj (by have := Kt_le (t := t) (n := n) p; omega) (by omega) (show nI (Kt t n p) = nI 3 from z), fun z => by rw [z]; rfl⟩
theorem K1_iff {p : Nat} : (nI (Kt t n p) = 1) ↔ Kt t n p = 1 := ⟨fun z => nI_inj (by have := Kt_le (t := t) (n := n) p; omega) (by omega) (show nI (Kt t n p) = nI 1 from z), fun z => by rw [z]; rfl⟩
theorem s_passEnd {a p : Nat} (h : cP t n M a p τ) : (okE t n p = true ∧ ∃ τ' a', f_X6_passEnd τ = some (1, τ') ∧ Fr cGo τ τ' ∧ cP t n M a' (nx t n p) τ') ∨ (okE t n p = false ∧ ∃ τ', f_X6_passEnd τ = some (0, τ') ∧ Fr cGo τ τ' ∧ flt 1 p τ') := by
  have hle := h.le
  have h0 := h
  obtain ⟨h1, h2, h3, h4, h5, h6, h7⟩ := h
  obtain ⟨τ1, k1, k2, k3⟩ := s_fail h0 1
  have e17 : f_X6_passEnd_17 τ = some (0, τ1) := by
    unfold f_X6_passEnd_17
    rw [show f_X6_fail 1 τ = _ from k1, Option.bind_some]
    exact if_pos v0_ok
  unfold f_X6_passEnd okE
  rw [h6, h7]
  by_cases c : Kt t n p = 3
  · rw [if_pos (K3_iff.mpr c), decide_eq_true c]
    by_cases d : Vt t n p = 59
    · rw [if_pos d, decide_eq_true d]
      have hne := (Kt_3 c).1
      obtain ⟨τ2, a', b1, b2, b3⟩ := s_goOn h0 (by omega)
      exact Or.inl ⟨rfl, τ2, a', by rw [b1]; rfl, b2, b3⟩
    · rw [if_neg d, decide_eq_false d, e17]
      exact Or.inr ⟨rfl, τ1, rfl, k2, k3⟩
  · rw [if_neg (fun z => c (K3_iff.mp z)), decide_eq_false c, e17]
    exact Or.inr ⟨rfl, τ1, rfl, k2, k3⟩
end CR
