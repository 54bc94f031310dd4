/-! ===== the persistent cells as data; how each side stands to them ===== -/
def Ag (g : Nat → Nat → Int32) (τ : aSt) : Prop := ∀ a k, pers a k = true → gI τ a k = g a k
theorem Ag.row {g : Nat → Nat → Int32} {τ : aSt} (h : Ag g τ) {a : Nat} (k : Nat) (q : (61 ≤ a ∧ a ≤ 66) ∨ a = 68 ∨ (70 ≤ a ∧ a ≤ 72)) : gI τ a k = g a k := by
  apply h
  unfold pers
  rcases q with ⟨h1, h2⟩ | h | ⟨h1, h2⟩
  · simp [h1, h2]
  · simp [h]
  · simp [h1, h2]
theorem Ag.c {g : Nat → Nat → Int32} {τ : aSt} (h : Ag g τ) {k : Nat} (q : k = 5 ∨ k = 14 ∨ (15 ≤ k ∧ k ≤ 18) ∨ k = 20) : gI τ 57 k = g 57 k := by
  apply h
  unfold pers
  rcases q with h | h | ⟨h1, h2⟩ | h
  · simp [h]
  · simp [h]
  · simp [h1, h2]
  · simp [h]
theorem Ag.fr {g : Nat → Nat → Int32} {C : Nat → Nat → Prop} {τ τ' : aSt} (h : Ag g τ) (f : Fr C τ τ') (hc : ∀ a k, C a k → pers a k = false) : Ag g τ' := fun a k q => by
  rw [f.2.1 a k (fun z => by rw [hc a k z] at q; cases q)]
  exact h a k q
theorem Ag.self (σ : aSt) : Ag (vw σ) σ := fun a k q => by
  unfold vw
  rw [if_pos q]
def gW (g : Nat → Nat → Int32) (N R : Nat) : Prop := N ≤ 120 ∧ g 57 5 = nI N ∧ (∀ n, n < N → (∃ t, t < 1000 ∧ g 61 n = nI t) ∧ (∃ t, t ≤ 100000 ∧ g 62 n = nI t) ∧ (∃ t, t < 20 ∧ g 63 n = nI t) ∧ (∃ t, t < 20 ∧ g 64 n = nI t) ∧ (∃ t, 1 ≤ t ∧ t ≤ 100000 ∧ g 65 n = nI t) ∧ (∃ t, t < 4 ∧ g 66 n = nI t)) ∧ (∀ i, i < N → xOrd g i < N ∧ g 68 i = nI (xOrd g i)) ∧ (∀ i j, i < j → j < N → gBf g (xOrd g i) (xOrd g j)) ∧ (∃ w d l k, 1 ≤ w ∧ w ≤ 100000 ∧ 1 ≤ d ∧ d ≤ 100000 ∧ l ≤ 20000 ∧ k ≤ 20000 ∧ g 57 15 = nI w ∧ g 57 16 = nI d ∧ g 57 17 = nI l ∧ g 57 18 = nI k) ∧ (∃ x, x < 1048576 ∧ g 57 14 = nI x) ∧ R ≤ 12 ∧ g 57 20 = nI R ∧ (∀ r, r < R → (∃ w, 1 ≤ w ∧ w ≤ 1000 ∧ g 70 r = nI w) ∧ ∃ c, 1 ≤ c ∧ c ≤ 4 ∧ g 71 r = nI c ∧ ∀ n, n < c → ∃ f, f < 10 ∧ g 72 (12 * r + 3 * n) = nI f)
section GW
variable {g : Nat → Nat → Int32} {N R : Nat} (h : gW g N R)
theorem gW.hN (h : gW g N R) : N ≤ 120 := h.1
theorem gW.n5 (h : gW g N R) : g 57 5 = nI N := h.2.1
theorem gW.r61 (h : gW g N R) {n : Nat} (hn : n < N) : ∃ t, t < 1000 ∧ g 61 n = nI t := (h.2.2.1 n hn).1
theorem gW.r62 (h : gW g N R) {n : Nat} (hn : n < N) : ∃ t, t ≤ 100000 ∧ g 62 n = nI t := (h.2.2.1 n hn).2.1
theorem gW.r63 (h : gW g N R) {n : Nat} (hn : n < N) : ∃ t, t < 20 ∧ g 63 n = nI t := (h.2.2.1 n hn).2.2.1
theorem gW.r64 (h : gW g N R) {n : Nat} (hn : n < N) : ∃ t, t < 20 ∧ g 64 n = nI t := (h.2.2.1 n hn).2.2.2.1
theorem gW.r65 (h : gW g N R) {n : Nat} (hn : n < N) : ∃ t, 1 ≤ t ∧ t ≤ 100000 ∧ g 65 n = nI t := (h.2.2.1 n hn).2.2.2.2.1
theorem gW.r66 (h : gW g N R) {n : Nat} (hn : n < N) : ∃ t, t < 4 ∧ g 66 n = nI t := (h.2.2.1 n hn).2.2.2.2.2
theorem gW.olt (h : gW g N R) : ∀ i, i < N → xOrd g i < N := fun i hi => (h.2.2.2.1 i hi).1
theorem gW.o68 (h : gW g N R) {i : Nat} (hi : i < N) : g 68 i = nI (xOrd g i) := (h.2.2.2.1 i hi).2
theorem gW.obf (h : gW g N R) {i j : Nat} (hij : i < j) (hj : j < N) : gBf g (xOrd g i) (xOrd g j) := h.2.2.2.2.1 i j hij hj
theorem gW.lim (h : gW g N R) : ∃ w d l k, 1 ≤ w ∧ w ≤ 100000 ∧ 1 ≤ d ∧ d ≤ 100000 ∧ l ≤ 20000 ∧ k ≤ 20000 ∧ g 57 15 = nI w ∧ g 57 16 = nI d ∧ g 57 17 = nI l ∧ g 57 18 = nI k := h.2.2.2.2.2.1
theorem gW.mk (h : gW g N R) : ∃ x, x < 1048576 ∧ g 57 14 = nI x := h.2.2.2.2.2.2.1
theorem gW.hR (h : gW g N R) : R ≤ 12 := h.2.2.2.2.2.2.2.1
theorem gW.n20 (h : gW g N R) : g 57 20 = nI R := h.2.2.2.2.2.2.2.2.1
theorem gW.w70 (h : gW g N R) {r : Nat} (hr : r < R) : ∃ w, 1 ≤ w ∧ w ≤ 1000 ∧ g 70 r = nI w := (h.2.2.2.2.2.2.2.2.2 r hr).1
theorem gW.c71 (h : gW g N R) {r : Nat} (hr : r < R) : ∃ c, 1 ≤ c ∧ c ≤ 4 ∧ g 71 r = nI c ∧ ∀ n, n < c → ∃ f, f < 10 ∧ g 72 (12 * r + 3 * n) = nI f := (h.2.2.2.2.2.2.2.2.2 r hr).2
theorem gBf_irr {g : Nat → Nat → Int32} {p : Nat} : ¬ gBf g p p := by
  unfold gBf
  omega
theorem gW.oinj (h : gW g N R) : ∀ i j, i < N → j < N → xOrd g i = xOrd g j → i = j := by
  intro i j hi hj e
  apply Classical.byContradiction
  intro z
  rcases (by omega : i < j ∨ j < i) with q | q
  · have := h.obf q hj
    rw [e] at this
    exact gBf_irr this
  · have := h.obf q hi
    rw [e] at this
    exact gBf_irr this
theorem gW.onto (h : gW g N R) {p : Nat} (hp : p < N) : ∃ i, i < N ∧ xOrd g i = p := pm_onto h.olt h.oinj hp
theorem gW.obi (h : gW g N R) {i j : Nat} (hi : i < N) (hj : j < N) : xBef g (xOrd g i) (xOrd g j) = decide (i < j) := by
  have e : xBef g (xOrd g i) (xOrd g j) = bBf g (xOrd g i) (xOrd g j) := rfl
  rw [e]
  by_cases q : i < j
  · rw [decide_eq_true q]
    exact bBf_iff.mpr (h.obf q hj)
  · rw [decide_eq_false q]
    cases hb : bBf g (xOrd g i) (xOrd g j) with
    | false => rfl
    | true =>
      exfalso
      have b := bBf_iff.mp hb
      by_cases z : i = j
      · rw [z] at b
        exact gBf_irr b
      · have b2 := h.obf (show j < i by omega) hi
        unfold gBf at b b2
        omega
end GW
/-- how the class's cells stand to the data -/
def cG (g : Nat → Nat → Int32) (N R b : Nat) (τ : aSt) : Prop := (b = 12 ∨ b = 34) ∧ gR τ 11 0 = some b ∧ gN τ = 84 + N ∧ gI τ 2 2 = nI N ∧ (∀ n, n < N → gI τ (84 + n) 0 = g 61 n ∧ gI τ (84 + n) 1 = g 62 n ∧ gI τ (84 + n) 2 = g 63 n ∧ gI τ (84 + n) 3 = g 64 n ∧ gI τ (84 + n) 4 = g 65 n ∧ gI τ (84 + n) 5 = g 66 n ∧ gI τ (84 + n) 6 = nI n) ∧ (∀ i, i < N → gR τ 4 i = some (84 + xOrd g i)) ∧ gI τ 2 3 = g 57 14 ∧ gI τ b 1 = nI R ∧ (gI τ (b + 1) 0 = g 57 15 ∧ gI τ (b + 1) 1 = g 57 16 ∧ gI τ (b + 1) 2 = g 57 17 ∧ gI τ (b + 1) 3 = g 57 18) ∧ (∀ r, r < R → gI τ (b + 2) r = g 70 r ∧ gI τ (b + 3) r = g 71 r ∧ ∀ n, n < (g 71 r).toNatClampNeg → gI τ (b + 4) (4 * r + n) = g 72 (12 * r + 3 * n) ∧ gI τ (b + 5) (4 * r + n) = g 72 (12 * r + 3 * n + 1) ∧ gI τ (b + 6) (4 * r + n) = g 72 (12 * r + 3 * n + 2))
section CG
variable {g : Nat → Nat → Int32} {N R b : Nat} {τ : aSt}
theorem cG.hb (h : cG g N R b τ) : b = 12 ∨ b = 34 := h.1
theorem cG.r11 (h : cG g N R b τ) : gR τ 11 0 = some b := h.2.1
theorem cG.gn (h : cG g N R b τ) : gN τ = 84 + N := h.2.2.1
theorem cG.n2 (h : cG g N R b τ) : gI τ 2 2 = nI N := h.2.2.2.1
theorem cG.pay (h : cG g N R b τ) {n : Nat} (hn : n < N) : gI τ (84 + n) 0 = g 61 n ∧ gI τ (84 + n) 1 = g 62 n ∧ gI τ (84 + n) 2 = g 63 n ∧ gI τ (84 + n) 3 = g 64 n ∧ gI τ (84 + n) 4 = g 65 n ∧ gI τ (84 + n) 5 = g 66 n ∧ gI τ (84 + n) 6 = nI n := h.2.2.2.2.1 n hn
theorem cG.ord (h : cG g N R b τ) {i : Nat} (hi : i < N) : gR τ 4 i = some (84 + xOrd g i) := h.2.2.2.2.2.1 i hi
theorem cG.mk (h : cG g N R b τ) : gI τ 2 3 = g 57 14 := h.2.2.2.2.2.2.1
theorem cG.sz (h : cG g N R b τ) : gI τ b 1 = nI R := h.2.2.2.2.2.2.2.1
theorem cG.lim (h : cG g N R b τ) : gI τ (b + 1) 0 = g 57 15 ∧ gI τ (b + 1) 1 = g 57 16 ∧ gI τ (b + 1) 2 = g 57 17 ∧ gI τ (b + 1) 3 = g 57 18 := h.2.2.2.2.2.2.2.2.1
theorem cG.rul (h : cG g N R b τ) {r : Nat} (hr : r < R) : gI τ (b + 2) r = g 70 r ∧ gI τ (b + 3) r = g 71 r ∧ ∀ n, n < (g 71 r).toNatClampNeg → gI τ (b + 4) (4 * r + n) = g 72 (12 * r + 3 * n) ∧ gI τ (b + 5) (4 * r + n) = g 72 (12 * r + 3 * n + 1) ∧ gI τ (b + 6) (4 * r + n) = g 72 (12 * r + 3 * n + 2) := h.2.2.2.2.2.2.2.2.2 r hr
/-- the cells of the class that the data speak of -/
def cC (b a k : Nat) : Prop := (a = 11 ∧ k = 0) ∨ (a = 2 ∧ (k = 2 ∨ k = 3)) ∨ (84 ≤ a ∧ k ≤ 6) ∨ a = 4 ∨ (b ≤ a ∧ a ≤ b + 6)
theorem cG.fr {C : Nat → Nat → Prop} {τ' : aSt} (h : cG g N R b τ) (f : Fr C τ τ') (hc : ∀ a k, C a k → ¬ cC b a k) : cG g N R b τ' := by
  have e : ∀ a k, cC b a k → gI τ' a k = gI τ a k := fun a k q => f.2.1 a k (fun z => hc a k z q)
  have er : ∀ a k, cC b a k → gR τ' a k = gR τ a k := fun a k q => f.2.2 a k (fun z => hc a k z q)
  have eb : ∀ j k, j ≤ 6 → gI τ' (b + j) k = gI τ (b + j) k := fun j k q => e _ _ (Or.inr (Or.inr (Or.inr (Or.inr ⟨by omega, by omega⟩))))
  obtain ⟨h1, h2, h3, h4, h5, h6, h7, h8, h9, h10⟩ := h
  refine ⟨h1, by rw [er 11 0 (by unfold cC; omega)]; exact h2, by rw [f.1]; exact h3, by rw [e 2 2 (by unfold cC; omega)]; exact h4, fun n hn => ?_, fun i hi => by rw [er 4 i (by unfold cC; omega)]; exact h6 i hi, by rw [e 2 3 (by unfold cC; omega)]; exact h7, by have := eb 0 1 (by omega); rw [Nat.add_zero] at this; rw [this]; exact h8, ?_, fun r hr => ?_⟩
  · have ep : ∀ k, k ≤ 6 → gI τ' (84 + n) k = gI τ (84 + n) k := fun k q => e _ k (by unfold cC; omega)
    rw [ep 0 (by omega), ep 1 (by omega), ep 2 (by omega), ep 3 (by omega), ep 4 (by omega), ep 5 (by omega), ep 6 (by omega)]
    exact h5 n hn
  · rw [eb 1 0 (by omega), eb 1 1 (by omega), eb 1 2 (by omega), eb 1 3 (by omega)]
    exact h9
  · obtain ⟨q1, q2, q3⟩ := h10 r hr
    refine ⟨by rw [eb 2 r (by omega)]; exact q1, by rw [eb 3 r (by omega)]; exact q2, fun n hn => ?_⟩
    rw [eb 4 _ (by omega), eb 5 _ (by omega), eb 6 _ (by omega)]
    exact q3 n hn
theorem cG.ok (h : cG g N R b τ) {n : Nat} (hn : n < N) : aSh (84 + n) = 4 ∧ 84 + n < gN τ := ⟨aSh_pay (by omega), by rw [h.gn]; omega⟩
theorem cG.okb (h : cG g N R b τ) : aSh b = 8 ∧ b < gN τ := ⟨(bk_ok b h.hb).1, by rw [h.gn]; rcases h.hb with q | q <;> omega⟩
end CG
theorem Inv.data {σ : aSt} (h : Inv σ) : ∃ N b R, gW (vw σ) N R ∧ cG (vw σ) N R b σ ∧ pCache σ N R ∧ pPay σ N ∧ pBook σ b R := by
  obtain ⟨h1, ⟨hm1, hm2⟩, h3, h4, h5, N, b, R, h6, hp, hb, hc⟩ := h
  have hb0 : b = 12 ∨ b = 34 := by rcases h6 with ⟨q, -⟩ | ⟨q, -⟩ <;> omega
  have hr : gR σ 11 0 = some b := by rcases h6 with ⟨q, r, -⟩ | ⟨q, r, -⟩ <;> rw [q] <;> exact r
  have v : ∀ {a : Nat} (k : Nat), ((61 ≤ a ∧ a ≤ 66) ∨ a = 68 ∨ (70 ≤ a ∧ a ≤ 72)) → vw σ a k = gI σ a k := fun k q => vw_row k q
  have v57 : ∀ {k : Nat}, (k = 5 ∨ k = 14 ∨ (15 ≤ k ∧ k ≤ 18) ∨ k = 20) → vw σ 57 k = gI σ 57 k := fun q => vw_57 q
  have xo : ∀ i, xOrd (vw σ) i = ord σ i := fun i => by unfold xOrd ord; rw [v i (by omega)]
  refine ⟨N, b, R, ?_, ?_, hc, hp, hb⟩
  · obtain ⟨p1, p2, p3, p4, p5, p6, p7, p8, p9, p10⟩ := hp
    obtain ⟨b1, b2, b3, ⟨w, d, l, k, q1, q2, q3, q4, q5, q6, q7, q8, q9, q10, -⟩, b5⟩ := hb
    refine ⟨p1, by rw [v57 (by omega)]; exact p3, fun n hn => ?_, fun i hi => ?_, fun i j hij hj => ?_, ⟨w, d, l, k, q1, q2, q3, q4, q5, q6, by rw [v57 (by omega)]; exact q7, by rw [v57 (by omega)]; exact q8, by rw [v57 (by omega)]; exact q9, by rw [v57 (by omega)]; exact q10⟩, by rw [v57 (by omega)]; exact hm2, b1, by rw [v57 (by omega)]; exact b2, fun r hr => ?_⟩
    · rw [v n (by omega), v n (by omega), v n (by omega), v n (by omega), v n (by omega), v n (by omega)]
      obtain ⟨z1, z2, z3, z4, z5, z6, -⟩ := p5 n hn
      exact ⟨z1, z2, z3, z4, z5, z6⟩
    · rw [xo, v i (by omega)]
      exact ⟨(p9 i hi).1, (p9 i hi).2.1⟩
    · rw [xo, xo]
      have := p10 i j hij hj
      unfold bef at this
      unfold gBf
      rw [v _ (by omega), v _ (by omega), v _ (by omega), v _ (by omega)]
      exact this
    · obtain ⟨z1, z2, z3, c, z4, z5, z6, z7⟩ := b5 r hr
      rw [v r (by omega), v r (by omega)]
      refine ⟨z1, c, z4, z5, z6, fun n hn => ?_⟩
      rw [v _ (by omega)]
      exact (z7 n hn).1
  · obtain ⟨p1, p2, p3, p4, p5, p6, p7, p8, p9, p10⟩ := hp
    obtain ⟨b1, b2, b3, ⟨w, d, l, k, q1, q2, q3, q4, q5, q6, q7, q8, q9, q10, q11, q12, q13, q14⟩, b5⟩ := hb
    refine ⟨hb0, hr, p2, p4, fun n hn => ?_, fun i hi => by rw [xo]; exact (p9 i hi).2.2, by rw [v57 (by omega)]; exact hm1, b3, ?_, fun r hr => ?_⟩
    · rw [v n (by omega), v n (by omega), v n (by omega), v n (by omega), v n (by omega), v n (by omega)]
      obtain ⟨z0, z1, z2, z3, z4, z5, z6, -⟩ := p6 n hn
      exact ⟨z0, z1, z2, z3, z4, z5, z6⟩
    · rw [v57 (by omega), v57 (by omega), v57 (by omega), v57 (by omega), q7, q8, q9, q10]
      exact ⟨q11, q12, q13, q14⟩
    · obtain ⟨z1, z2, z3, c, z4, z5, z6, z7⟩ := b5 r hr
      rw [v r (by omega), v r (by omega)]
      refine ⟨z2, z3, fun n hn => ?_⟩
      rw [z6, ix_cl (by omega)] at hn
      rw [v _ (by omega), v _ (by omega), v _ (by omega)]
      exact (z7 n hn).2
