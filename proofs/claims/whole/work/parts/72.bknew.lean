/-! ===== rules, both sides ===== -/
theorem I_rng {x lo hi : Int32} {a c : Nat} (h1 : lo ≤ x) (h2 : x ≤ hi) (e1 : lo.toInt = a) (e2 : hi.toInt = c) (hc : c < 2147483648) : ∃ w, a ≤ w ∧ w ≤ c ∧ x = nI w := by
  rw [pi_le, e1] at h1
  rw [pi_le, e2] at h2
  exact ⟨x.toInt.toNat, by omega, by omega, pi_of (by omega)⟩
/-- the new book, in place on both sides -/
theorem bk_new {t : Nat → Nat} {n b : Nat} {lim : Nat → Int32} {R : Nat} {wp cn : Nat → Nat} {τ τ1 σ' : aSt} (hv : vD t n lim R wp cn) (hc : bkC t n b lim R wp cn τ1) (hm : bkM t n lim R wp cn τ) (ec : ∀ a k, b ≤ a → a ≤ b + 6 → gI σ' a k = gI τ1 a k) (e20 : gI σ' 57 20 = nI R) (e15 : gI σ' 57 15 = lim 0) (e16 : gI σ' 57 16 = lim 1) (e17 : gI σ' 57 17 = lim 2) (e18 : gI σ' 57 18 = lim 3) (er : ∀ i, i < 12 → gI σ' 70 i = gI τ 73 i ∧ gI σ' 71 i = gI τ 74 i ∧ ∀ y, 12 * i ≤ y → y < 12 * i + 12 → gI σ' 72 y = gI τ 75 y) : pBook σ' b R := by
  obtain ⟨v1, v2, v3⟩ := hv
  have l0 := v2 0 (by omega)
  have l1 := v2 1 (by omega)
  have l2 := v2 2 (by omega)
  have l3 := v2 3 (by omega)
  obtain ⟨w0, a1, a2, a3⟩ := I_rng (a := 1) (c := 100000) l0.1 l0.2 rfl rfl (by omega)
  obtain ⟨w1, b1, b2, b3⟩ := I_rng (a := 1) (c := 100000) l1.1 l1.2 rfl rfl (by omega)
  obtain ⟨w2, c1, c2, c3⟩ := I_rng (a := 0) (c := 20000) l2.1 l2.2 rfl rfl (by omega)
  obtain ⟨w3, d1, d2, d3⟩ := I_rng (a := 0) (c := 20000) l3.1 l3.2 rfl rfl (by omega)
  refine ⟨v1, e20, by rw [ec b 1 (by omega) (by omega)]; exact hc.1, ⟨w0, w1, w2, w3, a1, a2, b1, b2, c2, d2, by rw [e15, a3], by rw [e16, b3], by rw [e17, c3], by rw [e18, d3], by rw [ec _ _ (by omega) (by omega), hc.2.1 0 (by omega), a3], by rw [ec _ _ (by omega) (by omega), hc.2.1 1 (by omega), b3], by rw [ec _ _ (by omega) (by omega), hc.2.1 2 (by omega), c3], by rw [ec _ _ (by omega) (by omega), hc.2.1 3 (by omega), d3]⟩, fun r hr => ?_⟩
  obtain ⟨x1, x2, x3, x4⟩ := v3 r hr
  obtain ⟨y1, y2, y3⟩ := er r (by omega)
  obtain ⟨m1, m2, m3⟩ := hm.2.2 r hr
  obtain ⟨q1, q2, q3⟩ := hc.2.2 r hr
  obtain ⟨w, z1, z2, z3⟩ := I_rng (a := 1) (c := 1000) x1.1 x1.2 rfl rfl (by omega)
  refine ⟨⟨w, z1, z2, by rw [y1, m1, z3]⟩, by rw [ec _ _ (by omega) (by omega), q1, y1, m1], by rw [ec _ _ (by omega) (by omega), q2, y2, m2], cn r, x2, x3, by rw [y2, m2], fun j hj => ?_⟩
  obtain ⟨m4, m5, m6⟩ := m3 j hj
  obtain ⟨q4, q5, q6⟩ := q3 j hj
  have x5 := x4 j hj
  have e72 : ∀ y, 12 * r ≤ y → y < 12 * r + 12 → gI σ' 72 y = gI τ 75 y := y3
  refine ⟨?_, by rw [ec _ _ (by omega) (by omega), q4, e72 _ (by omega) (by omega), m4], by rw [ec _ _ (by omega) (by omega), q5, e72 _ (by omega) (by omega), m5], by rw [ec _ _ (by omega) (by omega), q6, e72 _ (by omega) (by omega), m6]⟩
  rw [e72 _ (by omega) (by omega), m4]
  obtain ⟨f, f1, f2, f3⟩ := I_rng (a := 7) (c := 16) x5.1 x5.2 rfl rfl (by omega)
  refine ⟨f - 7, by omega, ?_⟩
  rw [f3, show (7 : Int32) = nI 7 from rfl, pk_sub (by omega)]
def cFl (b a k : Nat) : Prop := scr a k ∨ (b ≤ a ∧ a ≤ b + 6) ∨ (a = 5 ∧ k = 3) ∨ (a = 0 ∧ k = 9) ∨ (a = 57 ∧ (k = 30 ∨ k = 31))
def cSu (b a k : Nat) : Prop := scr a k ∨ (b ≤ a ∧ a ≤ b + 6) ∨ (a = 5 ∧ k = 3) ∨ (a = 57 ∧ (k = 30 ∨ (15 ≤ k ∧ k ≤ 18) ∨ k = 20)) ∨ a = 23 ∨ (a = 11 ∧ k = 0) ∨ (a = 0 ∧ k = 8) ∨ (70 ≤ a ∧ a ≤ 72)
theorem cXr_scr {b a k : Nat} (h : cXr b a k) : scr a k ∨ (b ≤ a ∧ a ≤ b + 6) := by
  unfold cXr at h
  unfold scr
  omega
theorem cMr_scr {a k : Nat} (h : cMr a k ∨ (a = 57 ∧ (k = 0 ∨ k = 30 ∨ k = 32))) : scr a k ∨ (a = 57 ∧ k = 30) := by
  unfold cMr at h
  unfold scr
  omega
section FL
variable {t : Nat → Nat} {n : Nat}
theorem plim_lt {k p : Nat} : (plim t n k p).1 < 100 := by
  have := pnum_lt (t := t) (n := n) (lo := loL k) (hi := hiL k) (p := nx t n p)
  unfold plim
  split
  · split
    · show (0 : Nat) < 100; omega
    · show (1 : Nat) < 100; omega
  · show pnum t n (loL k) (hiL k) (nx t n p) < 100; omega
theorem plp_lt {p0 : Nat} : ∀ d j, (plp t n p0 d j).1 < 100
  | 0, j => by show (3 : Nat) < 100; omega
  | d + 1, j => by
    rw [plp_s]
    split
    · split
      · exact plp_lt d (j + 1)
      · split
        · show (0 : Nat) < 100; omega
        · show (1 : Nat) < 100; omega
    · exact ptf_lt
theorem prul_lt {R p : Nat} : (prul t n R p).1 < 100 := by
  have := pnum_lt (t := t) (n := n) (lo := 1) (hi := 1000) (p := nx t n p)
  unfold prul
  split
  · show (3 : Nat) < 100; omega
  · split
    · split
      · exact plp_lt _ _
      · show (1 : Nat) < 100; omega
    · show pnum t n 1 1000 (nx t n p) < 100; omega
theorem sF_lt {R p : Nat} : (sF t n R p).1 < 100 := by
  unfold sF
  split
  · exact plim_lt
  · split
    · exact prul_lt
    · show (1 : Nat) < 100; omega
theorem rd_lt : ∀ (f p : Nat) (lim : Nat → Int32) (R : Nat) (wp cn : Nat → Nat), (rd t n f p lim R wp cn).1.1 < 100
  | 0, p, lim, R, wp, cn => by show (0 : Nat) < 100; omega
  | f + 1, p, lim, R, wp, cn => by
    have er : rd t n (f + 1) p lim R wp cn = if p = n then ((0, p), lim, R, wp, cn) else if (sF t n R p).1 = 0 then rd t n f (sF t n R p).2 (sLim t n p lim) (sR' t n p R) (sWp t n p R wp) (sCn t n p R cn) else (sF t n R p, lim, R, wp, cn) := rfl
    rw [er]
    split
    · show (0 : Nat) < 100; omega
    · split
      · exact rd_lt f _ _ _ _ _
      · exact sF_lt
end FL
/-- after a fault all stands but the fault -/
theorem Inv.flt {σ σ' : aSt} {b : Nat} (h : Inv σ) (hb : b = 12 ∨ b = 34) (h08 : gR σ 0 8 = some b) (f : Fr (cFl b) σ σ') (e1 : gI σ' 5 3 = nI 0) (e2 : gI σ' 57 30 = nI 0) (e3 : gI σ' 0 9 = gI σ' 57 31) : Inv σ' := by
  obtain ⟨h1, h2, h3, h4, h5, N, b0, R, h6, h7, h8, h9⟩ := h
  have hb0 : (b0 = 12 ∨ b0 = 34) ∧ b + b0 = 46 := by
    rcases h6 with ⟨q1, q2, q3⟩ | ⟨q1, q2, q3⟩
    · rw [h08] at q3
      injection q3 with q3
      omega
    · rw [h08] at q3
      injection q3 with q3
      omega
  have np : ∀ a k, cFl b a k → ¬ cPay a k := fun a k q => by
    unfold cFl scr at q
    unfold cPay
    omega
  have nb : ∀ a k, cFl b a k → ¬ cBook b0 a k := fun a k q => by
    unfold cFl scr at q
    unfold cBook
    omega
  have npe : ∀ a k, cFl b a k → pers a k = false := fun a k q => by
    unfold cFl at q
    rcases q with q | q
    · exact scr_pers q
    · unfold pers
      simp only [Bool.or_eq_false_iff, Bool.and_eq_false_iff, decide_eq_false_iff_not]
      omega
  obtain ⟨s1, s2, s3, s4, s5, s6⟩ := h4
  refine ⟨h1.fr f (fun a k hs => by unfold cFl scr at hs; omega), h2.fr f (by unfold cFl scr; omega) (by unfold cFl scr; omega), ⟨0, by omega, e1, e2, fun i hi => absurd hi (Nat.not_lt_zero _)⟩, ?_, h5.fr f (by unfold cFl scr; omega) (by unfold cFl scr; omega) (fun k => by unfold cFl scr; omega) (fun k => by unfold cFl scr; omega), N, b0, R, ?_, h7.fr f np, h8.fr f nb, h9.fr f npe (fun k => by unfold cFl scr; omega) (fun k => by unfold cFl scr; omega)⟩
  · unfold pSmall
    rw [f.2.1 0 10 (by unfold cFl scr; omega), f.2.1 57 1 (by unfold cFl scr; omega), f.2.1 26 0 (by unfold cFl scr; omega), f.2.1 26 1 (by unfold cFl scr; omega), f.2.1 80 0 (by unfold cFl scr; omega), f.2.1 80 1 (by unfold cFl scr; omega)]
    exact ⟨s1, e3, s3, s4, s5, s6⟩
  · rw [f.2.2 11 0 (by unfold cFl scr; omega), f.2.2 0 8 (by unfold cFl scr; omega)]
    exact h6
/-- the new rules in force -/
theorem Inv.newB {σ σ' : aSt} {b R' : Nat} (h : Inv σ) (hb : b = 12 ∨ b = 34) (h08 : gR σ 0 8 = some b) (f : Fr (cSu b) σ σ') (e1 : gI σ' 5 3 = nI 0) (e2 : gI σ' 57 30 = nI 0) (hB : pBook σ' b R') (r11 : gR σ' 11 0 = some b) (r08 : gR σ' 0 8 = gR σ 11 0) (hz : ∀ j, j < 240 → gI σ' 23 j = -1) : Inv σ' := by
  obtain ⟨h1, h2, h3, h4, h5, N, b0, R, h6, h7, h8, h9⟩ := h
  have np : ∀ a k, cSu b a k → ¬ cPay a k := fun a k q => by
    unfold cSu scr at q
    unfold cPay
    omega
  refine ⟨h1.fr f (fun a k hs => by unfold cSu scr at hs; omega), h2.fr f (by unfold cSu scr; omega) (by unfold cSu scr; omega), ⟨0, by omega, e1, e2, fun i hi => absurd hi (Nat.not_lt_zero _)⟩, h4.fr f (by unfold cSu scr; omega) (by unfold cSu scr; omega) (by unfold cSu scr; omega) (by unfold cSu scr; omega) (by unfold cSu scr; omega) (by unfold cSu scr; omega) (by unfold cSu scr; omega) (by unfold cSu scr; omega), h5.fr f (by unfold cSu scr; omega) (by unfold cSu scr; omega) (fun k => by unfold cSu scr; omega) (fun k => by unfold cSu scr; omega), N, b, R', ?_, h7.fr f np, hB, pCache.all h7.1 hz⟩
  rcases h6 with ⟨q1, q2, q3⟩ | ⟨q1, q2, q3⟩
  · rw [h08] at q3
    injection q3 with q3
    refine Or.inr ⟨q3, by rw [r11, q3], by rw [r08, q2]⟩
  · rw [h08] at q3
    injection q3 with q3
    refine Or.inl ⟨q3, by rw [r11, q3], by rw [r08, q2]⟩
