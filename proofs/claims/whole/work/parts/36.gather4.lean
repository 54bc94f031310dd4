/-! ===== the class's features are the reference's ===== -/
theorem fOr_rng {f : Nat → Int32} {B : Nat} : ∀ {n : Nat}, (∀ i, i < n → ∃ x, x < 2 ^ B ∧ f i = nI x) → ∃ x, x < 2 ^ B ∧ fOr f n = nI x
  | 0, _ => ⟨0, Nat.two_pow_pos B, rfl⟩
  | n + 1, h => by
    obtain ⟨x, hx, ex⟩ := fOr_rng (fun i hi => h i (Nat.lt_succ_of_lt hi))
    obtain ⟨y, hy, ey⟩ := h n (Nat.lt_succ_self n)
    refine ⟨x ||| y, Nat.or_lt_two_pow hx hy, ?_⟩
    rw [fOr_s, ex, ey, nb_or]
theorem xBit_nI {v : Nat} (h : v < 31) : xBit (nI v) = nI (2 ^ v) := nb_bit h
section GD
variable {g : Nat → Nat → Int32} {N R b : Nat} {τ : aSt}
theorem xPyes_rng (hw : gW g N R) {p kn : Nat} (hp : p < N) : ∃ x, x < 1048576 ∧ xPyes g N p kn = nI x := by
  obtain ⟨v, hv, ev⟩ := hw.r64 hp
  obtain ⟨y, hy, ey⟩ := fOr_rng (B := 20) (f := t5 g p kn) (n := N) (fun q hq => by
    obtain ⟨v, hv, ev⟩ := hw.r64 hq
    unfold t5
    cases (xAhd g p kn q && xLate g p q && xPay g p q) with
    | false => exact ⟨0, by decide, rfl⟩
    | true =>
      rw [if_pos rfl, ev, xBit_nI (by omega)]
      exact ⟨2 ^ v, Nat.pow_lt_pow_right (by omega) hv, rfl⟩)
  refine ⟨2 ^ v ||| y, Nat.or_lt_two_pow (Nat.pow_lt_pow_right (by omega) hv) hy, ?_⟩
  show xBit (g 64 p) ||| fOr (t5 g p kn) N = _
  rw [ev, ey, xBit_nI (by omega), nb_or]
theorem s_take {am : Int32} {p kn : Nat} (hw : gW g N R) (hg : 84 ≤ gN τ) (h1 : gI τ 20 1 = xProf g N p kn) : f_X7_takeAmount 20 am τ = some ((), sI (sI τ 21 0 am) 21 7 (am * 100 / (xProf g N p kn + 1))) := by
  obtain ⟨m, hm, em⟩ := xProf_rng (p := p) (kn := kn) hw
  unfold f_X7_takeAmount f_X7_takeAmount_34
  have e : nI m + 1 = nI (m + 1) := nI_1 m
  have nz : ¬ nI (m + 1) = 0 := fun q => by
    have := congrArg Int32.toInt q
    rw [pi_nI (by omega)] at this
    have e0 : (0 : Int32).toInt = 0 := rfl
    omega
  rw [if_pos (show aSh 20 = 7 ∧ 20 < gN τ from ⟨rfl, by omega⟩), h1, em, e, if_neg (nI_nle (by omega) (by omega)), if_pos nz, if_pos (show inB 7 10 by decide)]
  rfl
theorem fSum_ord (hw : gW g N R) {p kn P : Nat} (hP : P < N) (eP : xOrd g P = p) (f : Nat → Int32) (hf : ∀ q, xAhd g p kn q = false → f q = 0) : fSum (fun j => f (xOrd g j)) P = fSum f N := by
  rw [← fSum_perm hw.olt hw.oinj f]
  refine (fSum_cut (Nat.le_of_lt hP) (fun i h1 h2 => hf _ ?_)).symm
  unfold xAhd
  rw [← eP, hw.obi h2 hP, decide_eq_false (by omega : ¬ i < P)]
  rfl
theorem fOr_ord (hw : gW g N R) {p kn P : Nat} (hP : P < N) (eP : xOrd g P = p) (f : Nat → Int32) (hf : ∀ q, xAhd g p kn q = false → f q = 0) : fOr (fun j => f (xOrd g j)) P = fOr f N := by
  rw [← fOr_perm hw.olt hw.oinj f]
  refine (fOr_cut (Nat.le_of_lt hP) (fun i h1 h2 => hf _ ?_)).symm
  unfold xAhd
  rw [← eP, hw.obi h2 hP, decide_eq_false (by omega : ¬ i < P)]
  rfl
theorem xPrf_ord (hw : gW g N R) {p kn P : Nat} (hP : P < N) (eP : xOrd g P = p) : ∀ d, P + d ≤ N → xPrf g p kn (P + d) = xPrf g p kn P := by
  intro d
  induction d with
  | zero => intro _; rfl
  | succ d ih =>
    intro h
    rw [← ih (by omega)]
    show (if (xAhd g p kn (xOrd g (P + d)) && xPay g p (xOrd g (P + d))) = true then _ else _) = _
    have : xAhd g p kn (xOrd g (P + d)) = false := by
      unfold xAhd
      rw [← eP, hw.obi (by omega) hP, decide_eq_false (by omega : ¬ P + d < P)]
      rfl
    rw [this, Bool.false_and, if_neg (by decide)]
    rfl
theorem s_gather (hw : gW g N R) (h : cG g N R b τ) {p kn : Nat} (hp : p < N) (hk : kn < 2) : ∃ τ', f_X7_gather (84 + p) (nI kn) (some b) τ = some ((), τ') ∧ Fr (fun a _ => a = 20 ∨ a = 21 ∨ a = 22) τ τ' ∧ gL τ' = gL τ ∧ (∀ k, k < 10 → gI τ' 21 k = xFeat g N p kn (g 65 p) k) ∧ gI τ' 20 1 = xProf g N p kn := by
  obtain ⟨P, hP, eP⟩ := hw.onto hp
  have hN := hw.hN
  obtain ⟨τ1, a1, a2, aL, v1, v3, v4, v5, v6, w1, w2, w3, w4, w6, w9, wl⟩ := s_begin h hp
  have hc1 : cG g N R b τ1 := h.fr a2 (fun a k z => cC_row h.hb (by omega))
  have hs1 : gS g p kn 0 τ1 := ⟨w3, w4, v3.trans Int32.or_zero.symm, w6, w9, v1, fun l hl => (nomatch hl), v5, v6, w1, w2, wl⟩
  obtain ⟨τ2, b1, b2, bL, hc2, hs2⟩ := s_gloop hw hk hP eP aN 0 τ1 (by omega) (by show P < 0 + 1000000; omega) hc1 hs1
  obtain ⟨s3, s4, s5, s6, s9, sp, sl, sw, sd, sa, sb, sk⟩ := hs2
  rw [fSum_ord hw hP eP (t3 g p kn) (fun q z => by unfold t3; rw [z]; rfl)] at s3
  rw [fSum_ord hw hP eP (t4 g p kn) (fun q z => by unfold t4; rw [z]; rfl)] at s4
  rw [fOr_ord hw hP eP (t5 g p kn) (fun q z => by unfold t5; rw [z]; rfl)] at s5
  rw [fSum_ord hw hP eP (t6 g p kn) (fun q z => by unfold t6; rw [z]; rfl)] at s6
  rw [fSum_ord hw hP eP (t9 g p kn) (fun q z => by unfold t9; rw [z]; rfl)] at s9
  have sk2 : ∀ w, w < 20 → gI τ2 22 w = fOr (fun q => if xAhd g p kn q then tL g w q else 0) N := fun w hw2 => by
    rw [sk w hw2]
    exact fOr_ord hw hP eP (fun q => if xAhd g p kn q then tL g w q else 0) (fun q z => by rw [z]; rfl)
  have prN : xPrf g p kn N = xPrf g p kn P := by
    have := xPrf_ord (kn := kn) hw hP eP (N - P) (by omega)
    rw [show P + (N - P) = N by omega] at this
    exact this
  have hfd : f_X7_fade (gI τ2 20 1) (g 62 p - gI τ2 20 4) τ2 = some (xProf g N p kn, τ2) := by
    rw [s_fade hw sd, sp]
    unfold xProf
    rw [prN]
    cases hl : (xPrf g p kn P).2 with
    | none => rw [xPrf_none P hl, xFad_0]
    | some l => rw [sl l hl]
  obtain ⟨x, hx, ex⟩ := xPyes_rng (kn := kn) hw hp
  have s5' : gI τ2 20 3 = nI x := by rw [s5, ← ex]; rfl
  obtain ⟨-, q1, -, q3, q4, -, -⟩ := hc2.pay hp
  have ok := hc2.ok hp
  have hg2 : 84 ≤ gN τ2 := by rw [hc2.gn]; omega
  generalize hT : sI (sI (sI τ2 20 1 (xProf g N p kn)) 21 5 (xBits (nI x))) 21 8 (xFar g N p kn) = T
  have fin : f_X7_gather_76 (84 + p) τ2 = some ((), sI (sI T 21 0 (g 65 p)) 21 7 (g 65 p * 100 / (xProf g N p kn + 1))) := by
    unfold f_X7_gather_76
    rw [if_pos ok, q1, hfd]
    simp only [Option.bind_some]
    rw [gI_other (Or.inr (by omega)), s5', s_bitCount hx]
    simp only [Option.bind_some]
    have ok2 : aSh (84 + p) = 4 ∧ 84 + p < gN (sI (sI τ2 20 1 (xProf g N p kn)) 21 5 (xBits (nI x))) := ok
    rw [if_pos ok2, gI_other (Or.inl (by omega)), gI_other (Or.inl (by omega)), q3, gI_other (Or.inl (by omega)), gI_other (Or.inl (by omega)), hc2.mk, s_farC hw (fun w hw2 => by rw [gI_other (Or.inl (by omega)), gI_other (Or.inl (by omega))]; exact sk2 w hw2)]
    simp only [Option.bind_some]
    rw [hT]
    have ok3 : aSh (84 + p) = 4 ∧ 84 + p < gN T := by rw [← hT]; exact ok
    rw [if_pos ok3]
    have e4 : gI T (84 + p) 4 = g 65 p := by rw [← hT, gI_other (Or.inl (by omega)), gI_other (Or.inl (by omega)), gI_other (Or.inl (by omega)), q4]
    rw [e4, s_take hw (by rw [← hT]; exact hg2) (by rw [← hT, gI_other (Or.inl (by omega)), gI_other (Or.inl (by omega)), gI_same])]
    rfl
  have fT : Fr (fun a _ => a = 20 ∨ a = 21 ∨ a = 22) τ2 T := by
    rw [← hT]
    refine Fr.sI (Fr.sI (Fr.sI Fr.rf ?_) ?_) ?_ <;> simp
  refine ⟨sI (sI T 21 0 (g 65 p)) 21 7 (g 65 p * 100 / (xProf g N p kn + 1)), ?_, ?_, ?_, fun k hk2 => ?_, ?_⟩
  · unfold f_X7_gather
    rw [a1]
    simp only [Option.bind_some]
    rw [← fin]
    exact b1
  · refine (a2.tr b2).tr (Fr.sI (Fr.sI fT ?_) ?_) <;> simp
  · show gL T = gL τ
    rw [← hT]
    show gL τ2 = gL τ
    rw [bL, aL]
  · have o : ∀ (σ : aSt) (j i : Nat) (x : Int32), i ≠ j → gI (sI σ 21 j x) 21 i = gI σ 21 i := fun σ j i x q => gI_other (Or.inr q)
    have T' : ∀ i, i ≠ 5 → i ≠ 8 → gI T 21 i = gI τ2 21 i := fun i z1 z2 => by rw [← hT, o _ _ _ _ z2, o _ _ _ _ z1, gI_other (Or.inl (by omega))]
    rcases (by omega : k = 0 ∨ k = 1 ∨ k = 2 ∨ k = 3 ∨ k = 4 ∨ k = 5 ∨ k = 6 ∨ k = 7 ∨ k = 8 ∨ k = 9) with q | q | q | q | q | q | q | q | q | q <;> subst q
    · rw [o _ _ _ _ (by omega), gI_same]
      rfl
    · rw [o _ _ _ _ (by omega), o _ _ _ _ (by omega), T' _ (by omega) (by omega), sa]
      rfl
    · rw [o _ _ _ _ (by omega), o _ _ _ _ (by omega), T' _ (by omega) (by omega), sb]
      rfl
    · rw [o _ _ _ _ (by omega), o _ _ _ _ (by omega), T' _ (by omega) (by omega), s3]
      rfl
    · rw [o _ _ _ _ (by omega), o _ _ _ _ (by omega), T' _ (by omega) (by omega), s4]
      rfl
    · rw [o _ _ _ _ (by omega), o _ _ _ _ (by omega), ← hT, o _ _ _ _ (by omega), gI_same, ← ex]
      rfl
    · rw [o _ _ _ _ (by omega), o _ _ _ _ (by omega), T' _ (by omega) (by omega), s6]
      rfl
    · rw [gI_same]
      rfl
    · rw [o _ _ _ _ (by omega), o _ _ _ _ (by omega), ← hT, gI_same]
      rfl
    · rw [o _ _ _ _ (by omega), o _ _ _ _ (by omega), T' _ (by omega) (by omega), s9]
      rfl
  · rw [gI_other (Or.inl (by omega)), gI_other (Or.inl (by omega)), ← hT, gI_other (Or.inl (by omega)), gI_other (Or.inl (by omega)), gI_same]
end GD
