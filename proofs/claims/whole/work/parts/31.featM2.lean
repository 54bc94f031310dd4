/-! ===== the reference's features, on ===== -/
theorem Ag.wr {g : Nat → Nat → Int32} {τ : aSt} (h : Ag g τ) {a k : Nat} {v : Int32} (hp : pers a k = false) : Ag g (sI τ a k v) := fun b j q => by
  rw [gI_other (by
    apply Classical.byContradiction
    intro z
    have : b = a ∧ j = k := by omega
    rw [this.1, this.2, hp] at q
    cases q)]
  exact h b j q
theorem xFadN_nI : ∀ (k n : Nat), n ≤ 100000 → ∃ m, m ≤ n ∧ xFadN k (nI n) = nI m
  | 0, n, _ => ⟨n, Nat.le_refl _, rfl⟩
  | k + 1, n, h => by
    obtain ⟨m, h1, h2⟩ := xFadN_nI k (n - n / 4) (by omega)
    refine ⟨m, by omega, ?_⟩
    rw [xFadN_s, show (4 : Int32) = nI 4 from rfl, pk_div (by omega) (by omega) (by omega), pk_sub (by omega)]
    exact h2
theorem av4 {a v : Nat} (ha : a ≤ 100000) (hv : v ≤ 100000) : ∃ m, m ≤ 100000 ∧ nI v + (nI a - nI v) / 4 = nI m := by
  by_cases c : v ≤ a
  · refine ⟨v + (a - v) / 4, by omega, ?_⟩
    rw [pk_sub c, show (4 : Int32) = nI 4 from rfl, pk_div (by omega) (by omega) (by omega), nI_add]
  · refine ⟨v - (v - a) / 4, by omega, ?_⟩
    have hz : (nI a - nI v).toInt = -((v - a : Nat) : Int) := by
      rw [pi_sub (by rw [pi_nI (by omega), pi_nI (by omega)]; omega) (by rw [pi_nI (by omega), pi_nI (by omega)]; omega), pi_nI (by omega), pi_nI (by omega)]
      omega
    have h4 : ((nI a - nI v) / 4).toInt = -(((v - a) / 4 : Nat) : Int) := by
      rw [Int32.toInt_div, hz, show (4 : Int32).toInt = 4 from rfl, Int.neg_tdiv, Int.tdiv_eq_ediv_of_nonneg (by omega), Int.bmod_eq_of_le (by omega) (by omega)]
      omega
    rw [pi_eq, pi_add (by rw [h4, pi_nI (by omega)]; omega) (by rw [h4, pi_nI (by omega)]; omega), h4, pi_nI (by omega), pi_nI (by omega)]
    omega
theorem xPrf_rng {g : Nat → Nat → Int32} {N R p kn : Nat} (hw : gW g N R) : ∀ i, i ≤ N → ∃ m, m ≤ 100000 ∧ (xPrf g p kn i).1 = nI m := by
  intro i
  induction i with
  | zero => intro _; exact ⟨0, by omega, rfl⟩
  | succ i ih =>
    intro hi
    obtain ⟨m, hm, e⟩ := ih (by omega)
    obtain ⟨a, -, ha, ea⟩ := hw.r65 (hw.olt i (by omega))
    unfold xPrf
    by_cases c : (xAhd g p kn (xOrd g i) && xPay g p (xOrd g i)) = true
    · rw [if_pos c]
      cases hl : (xPrf g p kn i).2 with
      | none =>
        show ∃ m, m ≤ 100000 ∧ (xPrf g p kn i).1 + (g 65 (xOrd g i) - (xPrf g p kn i).1) / 4 = nI m
        rw [e, ea]
        exact av4 ha hm
      | some l =>
        show ∃ m, m ≤ 100000 ∧ xFad g (xPrf g p kn i).1 (g 62 (xOrd g i) - g 62 l) + (g 65 (xOrd g i) - xFad g (xPrf g p kn i).1 (g 62 (xOrd g i) - g 62 l)) / 4 = nI m
        unfold xFad
        rw [e, ea]
        obtain ⟨m', h1, h2⟩ := xFadN_nI (min 40 ((g 62 (xOrd g i) - g 62 l) / g 57 16).toInt.toNat) m hm
        rw [h2]
        exact av4 ha (by omega)
    · rw [if_neg c]
      exact ⟨m, hm, e⟩
theorem xProf_rng {g : Nat → Nat → Int32} {N R p kn : Nat} (hw : gW g N R) : ∃ m, m ≤ 100000 ∧ xProf g N p kn = nI m := by
  obtain ⟨m, hm, e⟩ := xPrf_rng (p := p) (kn := kn) hw N (Nat.le_refl _)
  unfold xProf
  cases hl : (xPrf g p kn N).2 with
  | none => exact ⟨m, hm, e⟩
  | some l =>
    show ∃ m, m ≤ 100000 ∧ xFad g (xPrf g p kn N).1 (g 62 p - g 62 l) = nI m
    unfold xFad
    rw [e]
    obtain ⟨m', h1, h2⟩ := xFadN_nI (min 40 ((g 62 p - g 62 l) / g 57 16).toInt.toNat) m hm
    exact ⟨m', by omega, h2⟩
theorem s_far {g : Nat → Nat → Int32} {N R : Nat} {σ : aSt} (hw : gW g N R) (h : Ag g σ) {p kn : Nat} (hp : p < N) (hk : kn < 2) : f_X12_farOf (nI p) (nI kn) σ = some (xFar g N p kn, σ) := by
  have hN := hw.hN
  have e5 : gI σ 57 5 = nI N := by rw [h.c (by omega), hw.n5]
  have ibp : inB (nI p) 120 := ix_in (by omega) (by omega)
  have clp : (nI p).toNatClampNeg = p := ix_cl (by omega)
  have inner : ∀ (rc : Int32 → Int32 → Int32 → Int32 → aSt → Option (Int32 × aSt)) (met x4 : Int32) (f i : Nat), i ≤ N → N < i + f → f_X12_farOf_37 rc f (nI p) (nI kn) met x4 (met ||| fOr (xEdge g p kn met) i) (nI i) σ = rc (nI p) (nI kn) (met ||| fOr (xEdge g p kn met) N) (x4 + 1) σ := by
    intro rc met x4 f
    induction f with
    | zero => intro i h1 h2; omega
    | succ f ih =>
      intro i h1 h2
      show f_X12_farOf_37_b rc (f_X12_farOf_37 rc f) (nI p) (nI kn) met x4 _ (nI i) σ = _
      unfold f_X12_farOf_37_b
      rw [e5]
      by_cases hi : i = N
      · subst hi
        rw [if_pos (Int32.le_refl _)]
      · have ib : inB (nI i) 120 := ix_in (by omega) (by omega)
        have cl : (nI i).toNatClampNeg = i := ix_cl (by omega)
        rw [if_neg (fun q => by rw [nI_leI (by omega) (by omega)] at q; omega), s_isAhead h (by omega) (by omega) hk]
        simp only [Option.bind_some, bI_0, f_X12_farOf_123, f_X12_farOf_120, f_X12_farOf_87, if_pos ib, cl, nI_1]
        rw [h.row (a := 63) i (by omega), h.row (a := 64) i (by omega)]
        have r := ih (i + 1) (by omega) (by omega)
        have es : fOr (xEdge g p kn met) (i + 1) = fOr (xEdge g p kn met) i ||| xEdge g p kn met i := rfl
        rw [es, ← Int32.or_assoc] at r
        unfold xEdge xHas at r
        unfold xEdge xHas
        cases ha : xAhd g p kn i with
        | false =>
          rw [ha] at r
          rw [if_neg (by decide), Int32.or_zero] at r
          rw [if_pos rfl]
          exact r
        | true =>
          rw [ha] at r
          rw [if_pos rfl] at r
          rw [if_neg (by decide)]
          by_cases c1 : (met >>> (g 63 i &&& 31)) &&& 1 = 1
          · rw [if_pos c1]
            rw [decide_eq_true c1, if_pos rfl] at r
            by_cases c2 : (met >>> (g 64 i &&& 31)) &&& 1 = 1
            · rw [if_pos c2]
              rw [decide_eq_true c2, if_pos rfl, ← Int32.or_assoc] at r
              exact r
            · rw [if_neg c2]
              rw [decide_eq_false c2, if_neg (by decide), ← Int32.or_assoc] at r
              exact r
          · rw [if_neg c1]
            rw [decide_eq_false c1, if_neg (by decide)] at r
            by_cases c2 : (met >>> (g 64 i &&& 31)) &&& 1 = 1
            · rw [if_pos c2]
              rw [decide_eq_true c2, if_pos rfl, ← Int32.or_assoc] at r
              exact r
            · rw [if_neg c2]
              rw [decide_eq_false c2, if_neg (by decide), ← Int32.or_assoc] at r
              exact r
  have outer : ∀ (f n k : Nat), n + k = 9 → n < f → f_X12_farOf_12 f (nI p) (nI kn) (xMet g N p kn k) (nI k) σ = some (xFarF g N p kn n k, σ) := by
    intro f
    induction f with
    | zero => intro n k h1 h2; omega
    | succ f ih =>
      intro n k h1 h2
      show f_X12_farOf_12_b (f_X12_farOf_12 f) (nI p) (nI kn) _ (nI k) σ = _
      unfold f_X12_farOf_12_b
      cases n with
      | zero =>
        have : k = 9 := by omega
        subst this
        rw [if_pos (show (9 : Int32) ≤ nI 9 from Int32.le_refl _)]
        rfl
      | succ n =>
        rw [if_neg (fun q => by rw [show (9 : Int32) = nI 9 from rfl, nI_leI (by omega) (by omega)] at q; omega), h.c (k := 14) (by omega)]
        unfold xFarF
        by_cases c : xMet g N p kn k &&& g 57 14 = 0
        · rw [if_pos c, if_pos c]
          have r := inner (f_X12_farOf_12 f) (xMet g N p kn k) (nI k) aN 0 (by omega) (by show N < 0 + 1000000; omega)
          have z : xMet g N p kn k ||| fOr (xEdge g p kn (xMet g N p kn k)) 0 = xMet g N p kn k := Int32.or_zero
          rw [z] at r
          rw [show (0 : Int32) = nI 0 from rfl, r, nI_1]
          exact ih n (k + 1) (by omega) (by omega)
        · rw [if_neg c, if_neg c]
  unfold f_X12_farOf
  rw [if_pos ibp, clp, h.row p (by omega)]
  exact outer aN 9 0 (by omega) (by show 9 < 1000000; omega)
