/-! ===== the reference's features, whole ===== -/
section TT
variable (g : Nat → Nat → Int32) (p kn q : Nat)
def t3 : Int32 := if xAhd g p kn q && xLate g p q && xPay g p q then 1 else 0
def t4 : Int32 := if xAhd g p kn q && xLate g p q && xPay g p q then g 65 q else 0
def t5 : Int32 := if xAhd g p kn q && xLate g p q && xPay g p q then xBit (g 64 q) else 0
def t6 : Int32 := if xAhd g p kn q && xPay g p q && xPye g p q then 1 else 0
def t9 : Int32 := if xAhd g p kn q && xLate g p q && xPye g p q then 1 else 0
end TT
theorem i10 : ((1 : Int32) = 0) = False := by decide
theorem fSum_s (f : Nat → Int32) (n : Nat) : fSum f (n + 1) = fSum f n + f n := rfl
theorem fOr_s (f : Nat → Int32) (n : Nat) : fOr f (n + 1) = fOr f n ||| f n := rfl
theorem fOr_sa (x : Int32) (f : Nat → Int32) (n : Nat) : x ||| fOr f (n + 1) = (x ||| fOr f n) ||| f n := by rw [fOr_s, Int32.or_assoc]
theorem s_features {g : Nat → Nat → Int32} {N R : Nat} {σ : aSt} (hw : gW g N R) (h : Ag g σ) {p kn : Nat} (hp : p < N) (hk : kn < 2) (am : Int32) : ∃ σ', f_X12_features (nI p) (nI kn) am σ = some ((), σ') ∧ Fr (fun a _ => a = 69) σ σ' ∧ gL σ' = gL σ ∧ ∀ k, k < 10 → gI σ' 69 k = xFeat g N p kn am k := by
  have hN := hw.hN
  have e5 : gI σ 57 5 = nI N := by rw [h.c (by omega), hw.n5]
  have ibp : inB (nI p) 120 := ix_in (by omega) (by omega)
  have clp : (nI p).toNatClampNeg = p := ix_cl (by omega)
  generalize hb : xBit (g 64 p) = bp
  have fin : ∃ σ', f_X12_features_25_b (fun _ _ _ _ _ _ _ _ _ _ => none) (nI p) (nI kn) am (fSum (t3 g p kn) N) (fSum (t4 g p kn) N) (bp ||| fOr (t5 g p kn) N) (fSum (t6 g p kn) N) (fSum (t9 g p kn) N) (nI N) σ = some ((), σ') ∧ Fr (fun a _ => a = 69) σ σ' ∧ gL σ' = gL σ ∧ ∀ k, k < 10 → gI σ' 69 k = xFeat g N p kn am k := by
    obtain ⟨m, hm, em⟩ := xProf_rng (p := p) (kn := kn) hw
    have nz : ¬ xProf g N p kn + 1 = 0 := by
      rw [em, nI_1]
      intro q
      have := congrArg Int32.toInt q
      rw [pi_nI (by omega)] at this
      have e0 : (0 : Int32).toInt = 0 := rfl
      omega
    have p69 : ∀ k, pers 69 k = false := fun k => by simp [pers]
    unfold f_X12_features_25_b
    have v1 : ∀ (τ : aSt) (j : Nat) (x : Int32) (a : Nat), a ≠ 69 → gI (sI τ 69 j x) a p = gI τ a p := fun τ j x a q => gI_other (Or.inl q)
    rw [e5, if_pos (Int32.le_refl _), if_pos ibp, if_pos ibp]
    rw [clp, v1 _ _ _ _ (by omega), v1 _ _ _ _ (by omega), v1 _ _ _ _ (by omega), h.row (a := 66) p (by omega), h.row (a := 62) p (by omega)]
    have f1 : xFeat g N p kn am 1 = g 66 p := rfl
    have f2 : xFeat g N p kn am 2 = g 62 p - g 62 p / 24 * 24 := rfl
    generalize g 66 p = y1 at f1 ⊢
    generalize g 62 p - g 62 p / 24 * 24 = y2 at f2 ⊢
    unfold f_X12_features_236
    rw [s_bits]
    simp only [Option.bind_some]
    rw [s_profile hw ((((((((h.wr (p69 _)).wr (p69 _)).wr (p69 _)).wr (p69 _)).wr (p69 _)).wr (p69 _)).wr (p69 _))) hp hk]
    simp only [Option.bind_some]
    rw [if_pos nz, s_far hw (((((((((h.wr (p69 _)).wr (p69 _)).wr (p69 _)).wr (p69 _)).wr (p69 _)).wr (p69 _)).wr (p69 _)).wr (p69 _))) hp hk]
    simp only [Option.bind_some]
    refine ⟨_, rfl, ?_, rfl, fun k hk2 => ?_⟩
    · refine Fr.sI (Fr.sI (Fr.sI (Fr.sI (Fr.sI (Fr.sI (Fr.sI (Fr.sI (Fr.sI (Fr.sI Fr.rf ?_) ?_) ?_) ?_) ?_) ?_) ?_) ?_) ?_) ?_ <;> rfl
    · have o : ∀ (τ : aSt) (j i : Nat) (x : Int32), i ≠ j → gI (sI τ 69 j x) 69 i = gI τ 69 i := fun τ j i x q => gI_other (Or.inr q)
      have e5 : xFeat g N p kn am 5 = xBits (bp ||| fOr (t5 g p kn) N) := by rw [← hb]; rfl
      rcases (by omega : k = 0 ∨ k = 1 ∨ k = 2 ∨ k = 3 ∨ k = 4 ∨ k = 5 ∨ k = 6 ∨ k = 7 ∨ k = 8 ∨ k = 9) with q | q | q | q | q | q | q | q | q | q <;> subst q
      · rw [o _ _ _ _ (by omega), o _ _ _ _ (by omega), o _ _ _ _ (by omega), o _ _ _ _ (by omega), o _ _ _ _ (by omega), o _ _ _ _ (by omega), o _ _ _ _ (by omega), o _ _ _ _ (by omega), o _ _ _ _ (by omega), gI_same]
        rfl
      · rw [o _ _ _ _ (by omega), o _ _ _ _ (by omega), o _ _ _ _ (by omega), o _ _ _ _ (by omega), o _ _ _ _ (by omega), o _ _ _ _ (by omega), o _ _ _ _ (by omega), o _ _ _ _ (by omega), gI_same, f1]
      · rw [o _ _ _ _ (by omega), o _ _ _ _ (by omega), o _ _ _ _ (by omega), o _ _ _ _ (by omega), o _ _ _ _ (by omega), o _ _ _ _ (by omega), o _ _ _ _ (by omega), gI_same, f2]
      · rw [o _ _ _ _ (by omega), o _ _ _ _ (by omega), o _ _ _ _ (by omega), o _ _ _ _ (by omega), o _ _ _ _ (by omega), o _ _ _ _ (by omega), gI_same]
        rfl
      · rw [o _ _ _ _ (by omega), o _ _ _ _ (by omega), o _ _ _ _ (by omega), o _ _ _ _ (by omega), o _ _ _ _ (by omega), gI_same]
        rfl
      · rw [o _ _ _ _ (by omega), o _ _ _ _ (by omega), o _ _ _ _ (by omega), o _ _ _ _ (by omega), gI_same, e5]
      · rw [o _ _ _ _ (by omega), o _ _ _ _ (by omega), o _ _ _ _ (by omega), gI_same]
        rfl
      · rw [o _ _ _ _ (by omega), o _ _ _ _ (by omega), gI_same]
        rfl
      · rw [o _ _ _ _ (by omega), gI_same]
        rfl
      · rw [gI_same]
        rfl
  have key : ∀ (f i : Nat), i ≤ N → N < i + f → ∃ σ', f_X12_features_25 f (nI p) (nI kn) am (fSum (t3 g p kn) i) (fSum (t4 g p kn) i) (bp ||| fOr (t5 g p kn) i) (fSum (t6 g p kn) i) (fSum (t9 g p kn) i) (nI i) σ = some ((), σ') ∧ Fr (fun a _ => a = 69) σ σ' ∧ gL σ' = gL σ ∧ ∀ k, k < 10 → gI σ' 69 k = xFeat g N p kn am k := by
    intro f
    induction f with
    | zero => intro i h1 h2; omega
    | succ f ih =>
      intro i h1 h2
      show ∃ σ', f_X12_features_25_b (f_X12_features_25 f) (nI p) (nI kn) am _ _ _ _ _ (nI i) σ = some ((), σ') ∧ _
      by_cases hi : i = N
      · subst hi
        unfold f_X12_features_25_b at fin ⊢
        rw [e5, if_pos (Int32.le_refl _)] at fin ⊢
        exact fin
      · have ib : inB (nI i) 120 := ix_in (by omega) (by omega)
        have cl : (nI i).toNatClampNeg = i := ix_cl (by omega)
        have r := ih (i + 1) (by omega) (by omega)
        rw [fSum_s, fSum_s, fSum_s, fSum_s, fOr_sa] at r
        unfold f_X12_features_25_b
        rw [e5, if_neg (fun q => by rw [nI_leI (by omega) (by omega)] at q; omega), s_isAhead h (by omega) (by omega) hk]
        simp only [Option.bind_some, bI_0, f_X12_features_196, f_X12_features_193, f_X12_features_192, f_X12_features_162, f_X12_features_161, f_X12_features_123, f_X12_features_71, if_pos ib, if_pos ibp, cl, clp, nI_1, i10, if_true, if_false]
        rw [h.row (a := 62) i (by omega), h.row (a := 62) p (by omega), h.row (a := 63) i (by omega), h.row (a := 63) p (by omega), h.row (a := 64) i (by omega), h.row (a := 64) p (by omega), h.row (a := 65) i (by omega), h.c (k := 15) (by omega)]
        cases ha : xAhd g p kn i with
        | false =>
          simp only [t3, t4, t5, t6, t9, ha, Bool.false_and, Bool.false_eq_true, if_false, Int32.add_zero, Int32.or_zero] at r
          rw [if_pos rfl]
          exact r
        | true =>
          rw [if_neg (by decide)]
          by_cases c1 : g 62 i ≤ g 62 p - g 57 15
          · have l : xLate g p i = false := decide_eq_false (Int32.not_lt.mpr c1)
            rw [if_pos c1]
            by_cases c2 : g 63 i = g 63 p
            · have y : xPay g p i = true := decide_eq_true c2
              rw [if_pos c2]
              by_cases c3 : g 64 i = g 64 p
              · have z : xPye g p i = true := decide_eq_true c3
                simp only [t3, t4, t5, t6, t9, ha, l, y, z, Bool.true_and, Bool.false_and, Bool.and_false, Bool.and_true, Bool.false_eq_true, if_false, if_true, Int32.add_zero, Int32.or_zero] at r
                rw [if_pos c3, Int32.add_zero]
                exact r
              · have z : xPye g p i = false := decide_eq_false c3
                simp only [t3, t4, t5, t6, t9, ha, l, y, z, Bool.true_and, Bool.false_and, Bool.and_false, Bool.and_true, Bool.false_eq_true, if_false, if_true, Int32.add_zero, Int32.or_zero] at r
                rw [if_neg c3, Int32.add_zero, Int32.add_zero]
                exact r
            · have y : xPay g p i = false := decide_eq_false c2
              simp only [t3, t4, t5, t6, t9, ha, l, y, Bool.true_and, Bool.false_and, Bool.and_false, Bool.and_true, Bool.false_eq_true, if_false, if_true, Int32.add_zero, Int32.or_zero] at r
              rw [if_neg c2, Int32.add_zero, Int32.add_zero]
              exact r
          · have l : xLate g p i = true := decide_eq_true (Int32.not_le.mp c1)
            rw [if_neg c1]
            by_cases c2 : g 63 i = g 63 p
            · have y : xPay g p i = true := decide_eq_true c2
              rw [if_pos c2]
              by_cases c3 : g 64 i = g 64 p
              · have z : xPye g p i = true := decide_eq_true c3
                simp only [t3, t4, t5, t6, t9, ha, l, y, z, Bool.true_and, Bool.false_and, Bool.and_false, Bool.and_true, Bool.false_eq_true, if_false, if_true, Int32.add_zero, Int32.or_zero] at r
                simp only [if_pos c3, if_pos c2, Int32.add_zero]
                exact r
              · have z : xPye g p i = false := decide_eq_false c3
                simp only [t3, t4, t5, t6, t9, ha, l, y, z, Bool.true_and, Bool.false_and, Bool.and_false, Bool.and_true, Bool.false_eq_true, if_false, if_true, Int32.add_zero, Int32.or_zero] at r
                simp only [if_neg c3, if_pos c2, Int32.add_zero]
                exact r
            · have y : xPay g p i = false := decide_eq_false c2
              rw [if_neg c2]
              by_cases c3 : g 64 i = g 64 p
              · have z : xPye g p i = true := decide_eq_true c3
                simp only [t3, t4, t5, t6, t9, ha, l, y, z, Bool.true_and, Bool.false_and, Bool.and_false, Bool.and_true, Bool.false_eq_true, if_false, if_true, Int32.add_zero, Int32.or_zero] at r
                simp only [if_pos c3, if_neg c2, Int32.add_zero]
                exact r
              · have z : xPye g p i = false := decide_eq_false c3
                simp only [t3, t4, t5, t6, t9, ha, l, y, z, Bool.true_and, Bool.false_and, Bool.and_false, Bool.and_true, Bool.false_eq_true, if_false, if_true, Int32.add_zero, Int32.or_zero] at r
                simp only [if_neg c3, if_neg c2, Int32.add_zero]
                exact r
  obtain ⟨σ', r1, r2⟩ := key aN 0 (by omega) (by show N < 0 + 1000000; omega)
  refine ⟨σ', ?_, r2⟩
  unfold f_X12_features
  rw [if_pos ibp, clp, h.row p (by omega)]
  have z : bp ||| fOr (t5 g p kn) 0 = bp := Int32.or_zero
  rw [z, ← hb] at r1
  exact r1
