/-! ===== the reference's features ===== -/
theorem s_isAhead {g : Nat → Nat → Int32} {σ : aSt} (h : Ag g σ) {p q kn : Nat} (hp : p < 120) (hq : q < 120) (hk : kn < 2) : f_X12_isAhead (nI q) (nI p) (nI kn) σ = some (bI (xAhd g p kn q), σ) := by
  unfold f_X12_isAhead f_X12_isAhead_22 f_X12_isAhead_18 f_X12_isAhead_23
  rw [s_isBef hq hp]
  have e : bBf (gI σ) q p = xBef g q p := by
    unfold bBf xBef
    rw [h.row q (by omega), h.row p (by omega), h.row q (by omega), h.row p (by omega)]
  rw [e]
  simp only [Option.bind_some, bI_0]
  unfold xAhd
  cases hb : xBef g q p with
  | false => rw [if_pos rfl, if_pos v0_ok]; rfl
  | true =>
    rw [if_neg (by decide)]
    rcases (by omega : kn = 0 ∨ kn = 1) with rfl | rfl
    · rw [if_pos (show nI 0 = 0 from rfl), if_pos v1_ok]
      rfl
    · rw [if_neg (show ¬ nI 1 = 0 by decide)]
      by_cases c : q < p
      · rw [if_neg (fun z => by rw [nI_leI (by omega) (by omega)] at z; omega), if_pos v1_ok, decide_eq_true c]
        rfl
      · rw [if_pos (by rw [nI_leI (by omega) (by omega)]; omega), if_pos v0_ok, decide_eq_false c]
        rfl
theorem s_bits (v : Int32) (σ : aSt) : f_X12_bits v σ = some (xBits v, σ) := by
  have key : ∀ (f k : Nat), k ≤ 20 → 20 < k + f → f_X12_bits_4 f v (fSum (fun k => (v >>> (nI k &&& 31)) &&& 1) k) (nI k) σ = some (xBits v, σ) := by
    intro f
    induction f with
    | zero => intro k h1 h2; omega
    | succ f ih =>
      intro k h1 h2
      show f_X12_bits_4_b (f_X12_bits_4 f) v _ (nI k) σ = _
      unfold f_X12_bits_4_b
      by_cases hk : k = 20
      · subst hk
        rw [if_pos (show (20 : Int32) ≤ nI 20 from Int32.le_refl _)]
        rfl
      · rw [if_neg (fun q => by rw [show (20 : Int32) = nI 20 from rfl, nI_leI (by omega) (by omega)] at q; omega), nI_1]
        exact ih (k + 1) (by omega) (by omega)
  exact key aN 0 (by omega) (by show 20 < 0 + 1000000; omega)
theorem xFadN_s (n : Nat) (v : Int32) : xFadN (n + 1) v = xFadN n (v - v / 4) := rfl
theorem s_faded {g : Nat → Nat → Int32} {N R : Nat} {σ : aSt} (hw : gW g N R) (h : Ag g σ) (v t : Int32) : f_X12_faded v t σ = some (xFad g v t, σ) := by
  obtain ⟨w, d, l, k, -, -, d1, d2, -, -, -, hd, -⟩ := hw.lim
  have ed : gI σ 57 16 = g 57 16 := h.c (by omega)
  have nz : ¬ g 57 16 = 0 := fun q => by
    rw [hd] at q
    have := congrArg Int32.toInt q
    rw [pi_nI (by omega)] at this
    have e0 : (0 : Int32).toInt = 0 := rfl
    omega
  have key : ∀ (f k : Nat) (x v : Int32), k ≤ 40 → 40 < k + f → f_X12_faded_13 f x v (nI k) σ = some (xFadN (min 40 x.toInt.toNat - k) v, σ) := by
    intro f
    induction f with
    | zero => intro k x v h1 h2; omega
    | succ f ih =>
      intro k x v h1 h2
      show f_X12_faded_13_b (f_X12_faded_13 f) x v (nI k) σ = _
      unfold f_X12_faded_13_b f_X12_faded_41
      have hx : x ≤ nI k ↔ x.toInt ≤ k := by rw [pi_le, pi_nI (by omega)]
      have h40 : (40 : Int32) ≤ nI k ↔ 40 ≤ k := by rw [show (40 : Int32) = nI 40 from rfl, nI_leI (by omega) (by omega)]
      by_cases c1 : x ≤ nI k
      · rw [if_pos c1]
        rw [hx] at c1
        rw [show min 40 x.toInt.toNat - k = 0 by omega]
        rfl
      · rw [if_neg c1]
        rw [hx] at c1
        by_cases c2 : (40 : Int32) ≤ nI k
        · rw [if_pos c2]
          rw [h40] at c2
          rw [show min 40 x.toInt.toNat - k = 0 by omega]
          rfl
        · rw [if_neg c2, nI_1]
          rw [h40] at c2
          rw [ih (k + 1) x _ (by omega) (by omega), show min 40 x.toInt.toNat - k = (min 40 x.toInt.toNat - (k + 1)) + 1 by omega, xFadN_s]
  unfold f_X12_faded
  rw [ed, if_pos nz]
  exact key aN 0 _ v (by omega) (by show 40 < 0 + 1000000; omega)
/-- the profile's fold -/
def lst (o : Option Nat) : Int32 := match o with
  | none => -1000000
  | some l => nI l
theorem xPrf_lt {g : Nat → Nat → Int32} {N R p kn : Nat} (hw : gW g N R) : ∀ i, i ≤ N → ∀ l, (xPrf g p kn i).2 = some l → l < N := by
  intro i
  induction i with
  | zero => intro _ l h; cases h
  | succ i ih =>
    intro hi l h
    unfold xPrf at h
    by_cases c : (xAhd g p kn (xOrd g i) && xPay g p (xOrd g i)) = true
    · rw [if_pos c] at h
      cases h
      exact hw.olt i (by omega)
    · rw [if_neg c] at h
      exact ih (by omega) l h
theorem s_profile {g : Nat → Nat → Int32} {N R : Nat} {σ : aSt} (hw : gW g N R) (h : Ag g σ) {p kn : Nat} (hp : p < N) (hk : kn < 2) : f_X12_profileOf (nI p) (nI kn) σ = some (xProf g N p kn, σ) := by
  have hN := hw.hN
  have e5 : gI σ 57 5 = nI N := by rw [h.c (by omega), hw.n5]
  have ibp : inB (nI p) 120 := ix_in (by omega) (by omega)
  have clp : (nI p).toNatClampNeg = p := ix_cl (by omega)
  have key : ∀ (f i : Nat), i ≤ N → N < i + f → f_X12_profileOf_9 f (nI p) (nI kn) (xPrf g p kn i).1 (lst (xPrf g p kn i).2) (nI i) σ = some (xProf g N p kn, σ) := by
    intro f
    induction f with
    | zero => intro i h1 h2; omega
    | succ f ih =>
      intro i h1 h2
      show f_X12_profileOf_9_b (f_X12_profileOf_9 f) (nI p) (nI kn) _ _ (nI i) σ = _
      unfold f_X12_profileOf_9_b
      rw [e5]
      by_cases hi : i = N
      · subst hi
        rw [if_pos (Int32.le_refl _)]
        unfold xProf f_X12_profileOf_140
        cases hl : (xPrf g p kn i).2 with
        | none => rw [if_pos (show lst none = -1000000 from rfl)]
        | some l =>
          have ll : l < i := xPrf_lt hw i (Nat.le_refl _) l hl
          show (if nI l = -1000000 then _ else _) = _
          rw [if_neg (nI_noNone (by omega)), if_pos ibp]
          show (if inB (nI l) 120 then _ else _) = _
          rw [if_pos (ix_in (by omega) (by omega)), clp]
          show Option.bind (f_X12_faded _ (gI σ 62 p - gI σ 62 (nI l).toNatClampNeg) σ) _ = _
          rw [ix_cl (by omega), h.row p (by omega), h.row l (by omega), s_faded hw h]
          rfl
      · have ho := hw.olt i (by omega)
        have e68 : gI σ 68 (nI i).toNatClampNeg = nI (xOrd g i) := by rw [ix_cl (by omega), h.row i (by omega), hw.o68 (by omega)]
        have ibo : inB (nI (xOrd g i)) 120 := ix_in (by omega) (by omega)
        have clo : (nI (xOrd g i)).toNatClampNeg = xOrd g i := ix_cl (by omega)
        rw [if_neg (fun q => by rw [nI_leI (by omega) (by omega)] at q; omega), if_pos (ix_in (by omega) (by omega)), e68, s_isAhead h (by omega) (by omega) hk]
        simp only [Option.bind_some, bI_0, f_X12_profileOf_104, f_X12_profileOf_85, if_pos ibo, if_pos ibp, clo, clp, nI_1]
        have step : (xPrf g p kn (i + 1)) = if (xAhd g p kn (xOrd g i) && xPay g p (xOrd g i)) = true then (match (xPrf g p kn i).2 with
          | none => (xPrf g p kn i).1 + (g 65 (xOrd g i) - (xPrf g p kn i).1) / 4
          | some l => xFad g (xPrf g p kn i).1 (g 62 (xOrd g i) - g 62 l) + (g 65 (xOrd g i) - xFad g (xPrf g p kn i).1 (g 62 (xOrd g i) - g 62 l)) / 4, some (xOrd g i)) else xPrf g p kn i := rfl
        have rc := ih (i + 1) (by omega) (by omega)
        rw [step] at rc
        cases ha : xAhd g p kn (xOrd g i) with
        | false =>
          rw [ha, Bool.false_and, if_neg (by decide)] at rc
          rw [if_pos rfl]
          exact rc
        | true =>
          rw [if_neg (by decide), h.row (a := 63) (xOrd g i) (by omega), h.row (a := 63) p (by omega)]
          rw [ha, Bool.true_and] at rc
          by_cases c : g 63 (xOrd g i) = g 63 p
          · rw [if_pos c]
            rw [if_pos (by unfold xPay; exact decide_eq_true c)] at rc
            cases hl : (xPrf g p kn i).2 with
            | none =>
              rw [hl] at rc
              rw [if_pos (show lst none = -1000000 from rfl), h.row (xOrd g i) (by omega)]
              exact rc
            | some l =>
              have ll : l < N := xPrf_lt hw i (by omega) l hl
              rw [hl] at rc
              show (if nI l = -1000000 then _ else _) = _
              rw [if_neg (nI_noNone (by omega))]
              show (if inB (nI l) 120 then _ else _) = _
              rw [if_pos (ix_in (by omega) (by omega))]
              show Option.bind (f_X12_faded _ (gI σ 62 (xOrd g i) - gI σ 62 (nI l).toNatClampNeg) σ) _ = _
              rw [ix_cl (by omega), h.row (xOrd g i) (by omega), h.row l (by omega), s_faded hw h]
              simp only [Option.bind_some]
              rw [h.row (xOrd g i) (by omega)]
              exact rc
          · rw [if_neg c]
            rw [if_neg (by unfold xPay; rw [decide_eq_false c]; decide)] at rc
            exact rc
  exact key aN 0 (by omega) (by show N < 0 + 1000000; omega)
