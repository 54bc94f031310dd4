/-! ===== statements: what is read, and the class's way ===== -/
def up {α : Type} (f : Nat → α) (k : Nat) (v : α) : Nat → α := fun i => if i = k then v else f i
theorem up_same {α : Type} (f : Nat → α) (k : Nat) (v : α) : up f k v k = v := by unfold up; rw [if_pos rfl]
theorem up_other {α : Type} {f : Nat → α} {k i : Nat} {v : α} (h : i ≠ k) : up f k v i = f i := by unfold up; rw [if_neg h]
def loL (k : Nat) : Int32 := if k < 2 then 1 else 0
def hiL (k : Nat) : Int32 := if k < 2 then 100000 else 20000
section ST0
variable (t : Nat → Nat) (n : Nat)
def okL (p : Nat) : Bool := decide (Kt t n p = 1) && (decide (0 ≤ Vt t n p) && decide (Vt t n p ≤ 3))
def plim (k p : Nat) : Nat × Nat := if pnum t n (loL k) (hiL k) (nx t n p) = 0 then (if okE t n (nx t n (nx t n p)) then (0, nx t n (nx t n (nx t n p))) else (1, nx t n (nx t n p))) else (pnum t n (loL k) (hiL k) (nx t n p), nx t n p)
def prul (R p : Nat) : Nat × Nat × Nat := if 12 ≤ R then (3, p, 0) else if pnum t n 1 1000 (nx t n p) = 0 then (if okW t n (nx t n (nx t n p)) 5 then plp t n (nx t n (nx t n (nx t n p))) 4 0 else (1, nx t n (nx t n p), 0)) else (pnum t n 1 1000 (nx t n p), nx t n p, 0)
def lk (p : Nat) : Nat := (Vt t n p).toNatClampNeg
def sF (R p : Nat) : Nat × Nat := if okL t n p then plim t n (lk t n p) p else if okW t n p 4 then ((prul t n R p).1, (prul t n R p).2.1) else (1, p)
def sLim (p : Nat) (lim : Nat → Int32) : Nat → Int32 := if okL t n p then up lim (lk t n p) (Vt t n (nx t n p)) else lim
def sR' (p R : Nat) : Nat := if okL t n p then R else R + 1
def sWp (p R : Nat) (wp : Nat → Nat) : Nat → Nat := if okL t n p then wp else up wp R (nx t n p)
def sCn (p R : Nat) (cn : Nat → Nat) : Nat → Nat := if okL t n p then cn else up cn R (prul t n R p).2.2
/-- all of it: fault and place, limits, rules -/
def rd : Nat → Nat → (Nat → Int32) → Nat → (Nat → Nat) → (Nat → Nat) → (Nat × Nat) × (Nat → Int32) × Nat × (Nat → Nat) × (Nat → Nat)
  | 0, p, lim, R, wp, cn => ((0, p), lim, R, wp, cn)
  | f + 1, p, lim, R, wp, cn => if p = n then ((0, p), lim, R, wp, cn) else if (sF t n R p).1 = 0 then rd f (sF t n R p).2 (sLim t n p lim) (sR' t n p R) (sWp t n p R wp) (sCn t n p R cn) else (sF t n R p, lim, R, wp, cn)
end ST0
def bkC (t : Nat → Nat) (n b : Nat) (lim : Nat → Int32) (R : Nat) (wp cn : Nat → Nat) (τ : aSt) : Prop := gI τ b 1 = nI R ∧ (∀ k, k < 4 → gI τ (b + 1) k = lim k) ∧ ∀ r, r < R → rowC t n b r (wp r) (nx t n (nx t n (wp r))) (cn r) τ
/-- what reading may write -/
def cRd (b a k : Nat) : Prop := cGo a k ∨ (b ≤ a ∧ a ≤ b + 6)
section ST
variable {t : Nat → Nat} {n M b : Nat} {τ : aSt}
theorem okL_k {p : Nat} (h : okL t n p = true) : Kt t n p = 1 ∧ lk t n p < 4 ∧ Vt t n p = nI (lk t n p) := by
  unfold okL at h
  simp only [Bool.and_eq_true, decide_eq_true_iff] at h
  obtain ⟨h1, h2, h3⟩ := h
  obtain ⟨k, hk, e⟩ := ix_rng (N := 4) rfl rfl h2 h3
  unfold lk
  rw [e, ix_cl (by omega)]
  exact ⟨h1, hk, rfl⟩
theorem s_limC (hb : b = 12 ∨ b = 34) (hg : 84 ≤ gN τ) (hr : gR τ 10 3 = some b) {k a p : Nat} (hk : k < 4) (h : cP t n M a p τ) (hp : p < n) : ((plim t n k p).1 = 0 ∧ ∃ τ' a', f_X6_readLimit (nI k) τ = some (1, τ') ∧ Fr (fun x y => cGo x y ∨ (x = b + 1 ∧ y = k)) τ τ' ∧ cP t n M a' (plim t n k p).2 τ' ∧ gI τ' (b + 1) k = Vt t n (nx t n p)) ∨ ((plim t n k p).1 ≠ 0 ∧ ∃ τ', f_X6_readLimit (nI k) τ = some (0, τ') ∧ Fr (fun x y => cGo x y ∨ (x = b + 1 ∧ y = k)) τ τ' ∧ flt (plim t n k p).1 (plim t n k p).2 τ') := by
  obtain ⟨k0, k1, k2, k3, k4, k5, k6, l1, l2, l3, l4, l5, l6⟩ := bk_ok b hb
  obtain ⟨τ1, a1, g1, g2, g3⟩ := s_goOn h hp
  have e41 : f_X6_readLimit (nI k) τ = f_X6_readLimit_41 (nI k) (loL k) (hiL k) τ1 := by
    unfold f_X6_readLimit f_X6_readLimit_9 f_X6_readLimit_14 f_X6_readLimit_29
    rcases (by omega : k = 0 ∨ k = 1 ∨ k = 2 ∨ k = 3) with q | q | q | q <;> subst q
    · rw [if_pos (show nI 0 = 0 from rfl), g1, Option.bind_some, if_neg (by decide), if_neg (by decide)]
      rfl
    · rw [if_neg (by decide), if_pos (show nI 1 = 1 from rfl), g1, Option.bind_some, if_neg (by decide), if_neg (by decide)]
      rfl
    · rw [if_neg (by decide), if_neg (by decide), g1, Option.bind_some, if_pos rfl, if_pos rfl]
      rfl
    · rw [if_neg (by decide), if_neg (by decide), g1, Option.bind_some, if_pos rfl, if_pos rfl]
      rfl
  rw [e41]
  unfold f_X6_readLimit_41
  have hle := g3.le
  rcases s_hasNum g3 (loL k) (hiL k) with ⟨n0, n1, n2⟩ | ⟨n0, τ2, n1, n2, n3⟩
  case inr =>
    have ep : plim t n k p = (pnum t n (loL k) (hiL k) (nx t n p), nx t n p) := by unfold plim; rw [if_neg n0]
    rw [n1, Option.bind_some, if_pos (show (0 : Int32) = 0 from rfl), ep]
    exact Or.inr ⟨n0, τ2, rfl, (g2.tr n2).mono (fun a k q => Or.inl q), n3⟩
  rw [n2, Option.bind_some, if_neg (show ¬ (1 : Int32) = 0 by decide), g2.2.2 10 3 (by simp [cGo]), hr]
  simp only [oC_some]
  have hg1 : 84 ≤ gN τ1 := by rw [g2.1]; exact hg
  rw [if_pos ⟨k0, by omega⟩, if_pos ⟨k1, by omega⟩, l1, if_pos (ix_in hk (by omega)), ix_cl (by omega), g3.2.2.2.2.2.2]
  have f2 : Fr (fun x y => x = b + 1 ∧ y = k) τ1 (sI τ1 (b + 1) k (Vt t n (nx t n p))) := Fr.sI Fr.rf ⟨rfl, rfl⟩
  have c2 : cP t n M a1 (nx t n p) (sI τ1 (b + 1) k (Vt t n (nx t n p))) := g3.fr f2 (fun a k q => by omega)
  have hv : gI (sI τ1 (b + 1) k (Vt t n (nx t n p))) (b + 1) k = Vt t n (nx t n p) := gI_same _ _ _ _
  generalize sI τ1 (b + 1) k (Vt t n (nx t n p)) = τ2 at *
  obtain ⟨τ3, a3, z1, z2, z3⟩ := s_goOn c2 n1
  rw [z1, Option.bind_some]
  have f3 : Fr (fun x y => cGo x y ∨ (x = b + 1 ∧ y = k)) τ τ3 := (g2.mono (fun a k q => Or.inl q)).tr ((f2.mono (fun a k q => Or.inr q)).tr (z2.mono (fun a k q => Or.inl q)))
  rcases s_passEnd z3 with ⟨y0, τ4, a4, y1, y2, y3⟩ | ⟨y0, τ4, y1, y2, y3⟩
  · have ep : plim t n k p = (0, nx t n (nx t n (nx t n p))) := by unfold plim; rw [if_pos n0, if_pos y0]
    rw [y1, Option.bind_some, ep]
    refine Or.inl ⟨rfl, τ4, a4, if_pos v1_ok, f3.tr (y2.mono (fun a k q => Or.inl q)), y3, ?_⟩
    rw [y2.2.1 (b + 1) k (by unfold cGo; omega), z2.2.1 (b + 1) k (by unfold cGo; omega)]
    exact hv
  · have ep : plim t n k p = (1, nx t n (nx t n p)) := by unfold plim; rw [if_pos n0, if_neg (by rw [y0]; decide)]
    rw [y1, Option.bind_some, ep]
    exact Or.inr ⟨by show (1 : Nat) ≠ 0; decide, τ4, if_pos v0_ok, f3.tr (y2.mono (fun a k q => Or.inl q)), y3⟩
theorem s_addRule (hb : b = 12 ∨ b = 34) (hg : 84 ≤ gN τ) {R : Nat} (hR : R < 12) (e1 : gI τ b 1 = nI R) (W : Int32) : ∃ τ', f_X8_addRule b W τ = some ((), τ') ∧ Fr (fun x y => (x = b ∧ y = 1) ∨ ((x = b + 2 ∨ x = b + 3) ∧ y = R)) τ τ' ∧ gI τ' b 1 = nI (R + 1) ∧ gI τ' (b + 2) R = W ∧ gI τ' (b + 3) R = 0 := by
  obtain ⟨k0, k1, k2, k3, k4, k5, k6, l1, l2, l3, l4, l5, l6⟩ := bk_ok b hb
  have cl : (nI R).toNatClampNeg = R := ix_cl (by omega)
  have ib : inB (nI R) 12 := ix_in hR (by omega)
  have g2 : ∀ v, gI (sI τ (b + 2) R v) b 1 = nI R := fun v => by rw [gI_other (Or.inl (by omega))]; exact e1
  have g3 : ∀ v w, gI (sI (sI τ (b + 2) R v) (b + 3) R w) b 1 = nI R := fun v w => by rw [gI_other (Or.inl (by omega))]; exact g2 v
  refine ⟨sI (sI (sI τ (b + 2) R W) (b + 3) R 0) b 1 (nI (R + 1)), ?_, ?_, gI_same _ _ _ _, ?_, ?_⟩
  · unfold f_X8_addRule f_X8_addRule_39
    have s3 : ∀ v, aSh (b + 3) = 13 ∧ b + 3 < gN (sI τ (b + 2) R v) := fun v => ⟨k3, by show _ < gN τ; omega⟩
    rw [if_pos ⟨k0, by omega⟩, e1, if_neg (show ¬ (12 : Int32) ≤ nI R by rw [show (12 : Int32) = nI 12 from rfl, nI_leI (by omega) (by omega)]; omega), if_pos ⟨k2, by omega⟩, l2, if_pos ib]
    simp only [cl, g2, g3, l3, if_pos (s3 W), if_pos ib, nI_1]
  · refine Fr.sI (Fr.sI (Fr.sI Fr.rf ?_) ?_) ?_ <;> simp
  · rw [gI_other (Or.inl (by omega)), gI_other (Or.inl (by omega)), gI_same]
  · rw [gI_other (Or.inl (by omega)), gI_same]
theorem s_ruleC (hb : b = 12 ∨ b = 34) (hg : 84 ≤ gN τ) (hr : gR τ 10 3 = some b) {R a p : Nat} (hR : R ≤ 12) (e1 : gI τ b 1 = nI R) (h : cP t n M a p τ) (hp : p < n) : ((prul t n R p).1 = 0 ∧ ∃ τ' a', f_X6_readRule τ = some (1, τ') ∧ R < 12 ∧ Fr (cRu b R) τ τ' ∧ cP t n M a' (prul t n R p).2.1 τ' ∧ gI τ' b 1 = nI (R + 1) ∧ rowC t n b R (nx t n p) (nx t n (nx t n (nx t n p))) (prul t n R p).2.2 τ') ∨ ((prul t n R p).1 ≠ 0 ∧ ∃ τ', f_X6_readRule τ = some (0, τ') ∧ Fr (fun x y => cRd b x y) τ τ' ∧ flt (prul t n R p).1 (prul t n R p).2.1 τ') := by
  have ok := (bk_ok b hb).1
  unfold f_X6_readRule
  rw [hr]
  simp only [oC_some]
  rw [if_pos ⟨ok, by omega⟩, e1]
  by_cases c12 : 12 ≤ R
  · rw [if_neg (show ¬ nI R < 12 by rw [show (12 : Int32) = nI 12 from rfl, nI_ltI (by omega) (by omega)]; omega)]
    obtain ⟨τ1, w1, w2, w3⟩ := s_fail h 3
    have ep : prul t n R p = (3, p, 0) := by unfold prul; rw [if_pos c12]
    rw [show f_X6_fail 3 τ = _ from w1, Option.bind_some, ep]
    exact Or.inr ⟨by show (3 : Nat) ≠ 0; decide, τ1, if_pos v0_ok, w2.mono (fun a k q => Or.inl q), w3⟩
  rw [if_pos (show nI R < 12 by rw [show (12 : Int32) = nI 12 from rfl, nI_ltI (by omega) (by omega)]; omega)]
  obtain ⟨τ1, a1, g1, g2, g3⟩ := s_goOn h hp
  rw [g1, Option.bind_some]
  rcases s_hasNum g3 1 1000 with ⟨n0, n1, n2⟩ | ⟨n0, τ2, n1, n2, n3⟩
  case inr =>
    have ep : prul t n R p = (pnum t n 1 1000 (nx t n p), nx t n p, 0) := by unfold prul; rw [if_neg c12, if_neg n0]
    rw [n1, Option.bind_some, if_pos (show (0 : Int32) = 0 from rfl), ep]
    exact Or.inr ⟨n0, τ2, rfl, (g2.tr n2).mono (fun a k q => Or.inl q), n3⟩
  rw [n2, Option.bind_some, if_neg (show ¬ (1 : Int32) = 0 by decide), g2.2.2 10 3 (by simp [cGo]), hr]
  simp only [oC_some]
  have hg1 : 84 ≤ gN τ1 := by rw [g2.1]; exact hg
  rw [if_pos ⟨ok, by omega⟩, g3.2.2.2.2.2.2]
  obtain ⟨τ2, u1, u2, u3, u4, u5⟩ := s_addRule hb hg1 (show R < 12 by omega) (by rw [g2.2.1 b 1 (by unfold cGo; omega)]; exact e1) (Vt t n (nx t n p))
  rw [u1, Option.bind_some]
  have c2 : cP t n M a1 (nx t n p) τ2 := g3.fr u2 (fun a k q => by omega)
  obtain ⟨τ3, a3, z1, z2, z3⟩ := s_goOn c2 n1
  rw [z1, Option.bind_some, show f_X6_isWord 5 τ3 = _ from s_isWd (k := 5) z3, Option.bind_some]
  simp only [bI_0]
  have g10 : ∀ x k, x ≠ 10 → gI τ3 x k = gI τ2 x k := fun x k hx => z2.2.1 x k (by unfold cGo; omega)
  have f3 : Fr (cRu b R) τ τ3 := (g2.mono (fun a k q => Or.inl q)).tr ((u2.mono (fun a k q => Or.inr (by omega))).tr (z2.mono (fun a k q => Or.inl q)))
  have wk : ∀ {x y : aSt}, Fr (cRu b R) x y → Fr (fun x y => cRd b x y) x y := fun f => f.mono (fun a k q => by
    unfold cRu at q
    unfold cRd
    rcases q with q | q | q | q
    · exact Or.inl q
    · exact Or.inr (by omega)
    · exact Or.inr (by omega)
    · exact Or.inr (by omega))
  by_cases c : okW t n (nx t n (nx t n p)) 5 = true
  · rw [if_neg (show ¬ okW t n (nx t n (nx t n p)) 5 = false by rw [c]; decide)]
    have ep : prul t n R p = plp t n (nx t n (nx t n (nx t n p))) 4 0 := by unfold prul; rw [if_neg c12, if_pos n0, if_pos c]
    rw [ep]
    have hk : Kt t n (nx t n (nx t n p)) = 1 := by
      unfold okW at c
      simp only [Bool.and_eq_true, decide_eq_true_iff] at c
      exact c.1
    have hle := z3.le
    have hne := (Kt_1 hk).1
    have hgn3 : 84 ≤ gN τ3 := by rw [f3.1]; exact hg
    have hr3 : gR τ3 10 3 = some b := by rw [f3.2.2 10 3 (by unfold cRu cGo; omega)]; exact hr
    have e3 : gI τ3 b 1 = nI (R + 1) := by rw [g10 _ _ (by omega)]; exact u3
    rcases s_rule66 hb (show R < 12 by omega) (w := nx t n p) (p0 := nx t n (nx t n (nx t n p))) 4 0 aN τ3 a3 (nx t n (nx t n p)) rfl (by show 4 < 1000000; omega) hgn3 hr3 e3 ⟨by rw [g10 _ _ (by omega)]; exact u4, by rw [g10 _ _ (by omega)]; exact u5, fun j hj => absurd hj (Nat.not_lt_zero _)⟩ z3 (by omega) rfl (fun q => absurd q (Nat.lt_irrefl _)) with ⟨y0, τ4, a4, y1, y2, y3, y4, y5, y6⟩ | ⟨y0, τ4, y1, y2, y3⟩
    · refine Or.inl ⟨y0, τ4, a4, y1, by omega, f3.tr (y2.mono (fun a k q => cRw_Ru q)), y3, ?_, y4⟩
      rw [y2.2.1 b 1 (by unfold cRw cGo; omega)]
      exact e3
    · exact Or.inr ⟨y0, τ4, y1, wk (f3.tr (y2.mono (fun a k q => cRw_Ru q))), y3⟩
  · rw [if_pos (bfalse c)]
    have ep : prul t n R p = (1, nx t n (nx t n p), 0) := by unfold prul; rw [if_neg c12, if_pos n0, if_neg c]
    obtain ⟨τ4, w1, w2, w3⟩ := s_fail z3 1
    rw [show f_X6_fail 1 τ3 = _ from w1, Option.bind_some, ep]
    exact Or.inr ⟨by show (1 : Nat) ≠ 0; decide, τ4, if_pos v0_ok, wk (f3.tr (w2.mono (fun a k q => Or.inl q))), w3⟩
end ST
