/-! ===== which rules hold, what they weigh, what is done ===== -/
theorem xAll_s (g : Nat → Nat → Int32) (v : Nat → Int32) (r n : Nat) : xAll g v r (n + 1) = (xAll g v r n && xTest g v (12 * r + 3 * n)) := rfl
theorem xAll_false {g : Nat → Nat → Int32} {v : Nat → Int32} {r n : Nat} (h : xAll g v r n = false) : ∀ d, xAll g v r (n + d) = false
  | 0 => h
  | d + 1 => by
    show (xAll g v r (n + d) && _) = false
    rw [xAll_false h d, Bool.false_and]
section RU
variable {g : Nat → Nat → Int32} {N R b : Nat} {τ : aSt}
/-- one test, as the code does it -/
theorem xTest_60 {v : Nat → Int32} {at0 f : Nat} (h : g 72 (at0 + 1) = 60) (hf : g 72 at0 = nI f) (hf2 : f < 10) : xTest g v at0 = decide (v f < g 72 (at0 + 2)) := by
  unfold xTest
  rw [if_pos h, hf, ix_cl (by omega)]
theorem xTest_62 {v : Nat → Int32} {at0 f : Nat} (h0 : ¬ g 72 (at0 + 1) = 60) (h : g 72 (at0 + 1) = 62) (hf : g 72 at0 = nI f) (hf2 : f < 10) : xTest g v at0 = decide (g 72 (at0 + 2) < v f) := by
  unfold xTest
  rw [if_neg h0, if_pos h, hf, ix_cl (by omega)]
theorem xTest_61 {v : Nat → Int32} {at0 f : Nat} (h0 : ¬ g 72 (at0 + 1) = 60) (h : ¬ g 72 (at0 + 1) = 62) (hf : g 72 at0 = nI f) (hf2 : f < 10) : xTest g v at0 = decide (v f = g 72 (at0 + 2)) := by
  unfold xTest
  rw [if_neg h0, if_neg h, hf, ix_cl (by omega)]
theorem s_holding (hw : gW g N R) (h : Ag g τ) {v : Nat → Int32} (hv : ∀ k, k < 10 → gI τ 69 k = v k) : f_X12_holding τ = some (xHold g R v, τ) := by
  have hR := hw.hR
  have e20 : gI τ 57 20 = nI R := by rw [h.c (by omega), hw.n20]
  have inner : ∀ (rc : Int32 → Int32 → aSt → Option (Int32 × aSt)) (set : Int32) (r c : Nat), r < R → c ≤ 4 → g 71 r = nI c → (∀ n, n < c → ∃ f, f < 10 ∧ g 72 (12 * r + 3 * n) = nI f) → ∀ (f n : Nat), n ≤ c → c < n + f → f_X12_holding_17 rc f set (nI r) (bI (xAll g v r n)) (nI n) τ = rc (set ||| (if xAll g v r c then xBit (nI r) else 0)) (nI (r + 1)) τ := by
    intro rc set r c hr hc e71 hf f
    induction f with
    | zero => intro n h1 h2; omega
    | succ f ih =>
      intro n h1 h2
      show f_X12_holding_17_b rc (f_X12_holding_17 rc f) set (nI r) _ (nI n) τ = _
      unfold f_X12_holding_17_b
      rw [if_pos (ix_in (by omega) (by omega)), ix_cl (by omega), h.row r (by omega), e71]
      by_cases hn : n = c
      · subst hn
        rw [if_pos (Int32.le_refl _)]
        unfold f_X12_holding_147
        cases xAll g v r n with
        | false => rw [if_pos (show bI false = 0 from rfl), nI_1]; rfl
        | true => rw [if_neg (show ¬ bI true = 0 by decide), nI_1]; rfl
      · have e : (12 * nI r + 3 * nI n : Int32) = nI (12 * r + 3 * n) := by rw [show (12 : Int32) = nI 12 from rfl, show (3 : Int32) = nI 3 from rfl, pk_mul, pk_mul, nI_add]
        obtain ⟨k, hk, ek⟩ := hf n (by omega)
        have i0 : inB (nI (12 * r + 3 * n)) 144 := ix_in (by omega) (by omega)
        have i1 : inB (nI (12 * r + 3 * n + 1)) 144 := ix_in (by omega) (by omega)
        have i2 : inB (nI (12 * r + 3 * n + 2)) 144 := ix_in (by omega) (by omega)
        have ik : inB (nI k) 10 := ix_in hk (by omega)
        have c0 : (nI (12 * r + 3 * n)).toNatClampNeg = 12 * r + 3 * n := ix_cl (by omega)
        have c1 : (nI (12 * r + 3 * n + 1)).toNatClampNeg = 12 * r + 3 * n + 1 := ix_cl (by omega)
        have c2 : (nI (12 * r + 3 * n + 2)).toNatClampNeg = 12 * r + 3 * n + 2 := ix_cl (by omega)
        have ck : (nI k).toNatClampNeg = k := ix_cl (by omega)
        have r72 : ∀ j, gI τ 72 j = g 72 j := fun j => h.row j (by omega)
        have rr := ih (n + 1) (by omega) (by omega)
        rw [if_neg (fun q => by rw [nI_leI (by omega) (by omega)] at q; omega), e, nI_k _ 1 1 rfl, nI_k _ 2 2 rfl]
        simp only [if_pos i0, if_pos i1, if_pos i2, c0, c1, c2, r72, ek, if_pos ik, ck, hv k hk, f_X12_holding_127, f_X12_holding_123, f_X12_holding_128, nI_1, bI_0]
        rw [xAll_s] at rr
        cases ha : xAll g v r n with
        | false =>
          rw [ha, Bool.false_and] at rr
          rw [if_pos rfl]
          exact rr
        | true =>
          rw [ha, Bool.true_and] at rr
          rw [if_neg (by decide)]
          by_cases s1 : g 72 (12 * r + 3 * n + 1) = 60
          · rw [if_pos s1]
            rw [xTest_60 s1 ek hk] at rr
            by_cases s2 : g 72 (12 * r + 3 * n + 2) ≤ v k
            · rw [decide_eq_false (Int32.not_lt.mpr s2)] at rr
              rw [if_pos s2]
              exact rr
            · rw [decide_eq_true (Int32.not_le.mp s2)] at rr
              rw [if_neg s2]
              exact rr
          · rw [if_neg s1]
            by_cases s3 : g 72 (12 * r + 3 * n + 1) = 62
            · rw [if_pos s3]
              rw [xTest_62 s1 s3 ek hk] at rr
              by_cases s2 : v k ≤ g 72 (12 * r + 3 * n + 2)
              · rw [decide_eq_false (Int32.not_lt.mpr s2)] at rr
                rw [if_pos s2]
                exact rr
              · rw [decide_eq_true (Int32.not_le.mp s2)] at rr
                rw [if_neg s2]
                exact rr
            · rw [if_neg s3]
              rw [xTest_61 s1 s3 ek hk] at rr
              by_cases s2 : v k = g 72 (12 * r + 3 * n + 2)
              · rw [decide_eq_true s2] at rr
                rw [if_pos s2]
                exact rr
              · rw [decide_eq_false s2] at rr
                rw [if_neg s2]
                exact rr
  have outer : ∀ (f r : Nat), r ≤ R → R < r + f → f_X12_holding_4 f (fOr (fun r => if xAll g v r (g 71 r).toNatClampNeg then xBit (nI r) else 0) r) (nI r) τ = some (xHold g R v, τ) := by
    intro f
    induction f with
    | zero => intro r h1 h2; omega
    | succ f ih =>
      intro r h1 h2
      show f_X12_holding_4_b (f_X12_holding_4 f) _ (nI r) τ = _
      unfold f_X12_holding_4_b
      rw [e20]
      by_cases hr : r = R
      · subst hr
        rw [if_pos (Int32.le_refl _)]
        rfl
      · obtain ⟨c, hc1, hc2, e71, hf⟩ := hw.c71 (show r < R by omega)
        rw [if_neg (fun q => by rw [nI_leI (by omega) (by omega)] at q; omega)]
        have rr := inner (f_X12_holding_4 f) (fOr (fun r => if xAll g v r (g 71 r).toNatClampNeg then xBit (nI r) else 0) r) r c (by omega) hc2 e71 hf aN 0 (by omega) (by show c < 0 + 1000000; omega)
        have z := ih (r + 1) (by omega) (by omega)
        rw [fOr_s, e71, ix_cl (by omega)] at z
        exact rr.trans z
  exact outer aN 0 (by omega) (by show R < 0 + 1000000; omega)
theorem s_holds (hw : gW g N R) (h : cG g N R b τ) {v : Nat → Int32} (hv : ∀ k, k < 10 → gI τ 21 k = v k) {r : Nat} (hr : r < R) : f_X8_holds b (nI r) τ = some (bI (xAll g v r (g 71 r).toNatClampNeg), τ) := by
  have hR := hw.hR
  obtain ⟨c, hc1, hc2, e71, hf⟩ := hw.c71 hr
  obtain ⟨-, q2, q3⟩ := h.rul hr
  have okb := h.okb
  obtain ⟨k0, k1, k2, k3, k4, k5, k6, l1, l2, l3, l4, l5, l6⟩ := bk_ok b h.hb
  have hg : gN τ = 84 + N := h.gn
  have hb := h.hb
  rw [e71, ix_cl (by omega)] at q3 ⊢
  have key : ∀ (f n : Nat), n ≤ c → c < n + f → xAll g v r n = true → f_X8_holds_4 f b (nI r) (nI (4 * r + n)) τ = some (bI (xAll g v r c), τ) := by
    intro f
    induction f with
    | zero => intro n h1 h2; omega
    | succ f ih =>
      intro n h1 h2 hall
      show f_X8_holds_4_b (f_X8_holds_4 f) b (nI r) (nI (4 * r + n)) τ = _
      unfold f_X8_holds_4_b
      rw [if_pos okb, if_pos ⟨k3, by omega⟩, l3, if_pos (ix_in (by omega) (by omega)), ix_cl (by omega), q2, e71, show (nI r * 4 + nI c : Int32) = nI (4 * r + c) by rw [show (4 : Int32) = nI 4 from rfl, pk_mul, nI_add, Nat.mul_comm]]
      by_cases hn : n = c
      · subst hn
        rw [if_pos (Int32.le_refl _), hall]
        rfl
      · obtain ⟨k, hk, ek⟩ := hf n (by omega)
        obtain ⟨w4, w5, w6⟩ := q3 n (by omega)
        have i0 : inB (nI (4 * r + n)) 48 := ix_in (by omega) (by omega)
        have c0 : (nI (4 * r + n)).toNatClampNeg = 4 * r + n := ix_cl (by omega)
        have ik : inB (nI k) 10 := ix_in hk (by omega)
        have ck : (nI k).toNatClampNeg = k := ix_cl (by omega)
        have w4' : gI τ (b + 4) (nI (4 * r + n)).toNatClampNeg = nI k := by rw [c0, w4, ek]
        have wk : 0 ≤ nI k ∧ nI k ≤ Int32.ofNat (aLn 21) - 1 := by
          rw [show (Int32.ofNat (aLn 21) - 1 : Int32) = nI 9 from rfl, nI_leI (by omega) (by omega)]
          exact ⟨nI_ge0 (by omega), by omega⟩
        have g4 : aSh (b + 4) = 13 ∧ b + 4 < gN τ := ⟨k4, by omega⟩
        have g5 : aSh (b + 5) = 13 ∧ b + 5 < gN τ := ⟨k5, by omega⟩
        have g6 : aSh (b + 6) = 13 ∧ b + 6 < gN τ := ⟨k6, by omega⟩
        rw [if_neg (fun q => by rw [nI_leI (by omega) (by omega)] at q; omega), if_pos g4, l4, if_pos i0, w4', s_within]
        simp only [Option.bind_some, bI_0, decide_eq_false_iff_not]
        rw [if_neg (not_not_intro wk)]
        simp only [f_X8_holds_47, f_X8_holds_125, if_pos okb, if_pos g4, if_pos g5, if_pos g6, l4, l5, l6, if_pos i0, c0, w4, w5, w6, ek, if_pos ik, ck, hv k hk, nI_1, i10, if_true, if_false]
        have good : xTest g v (12 * r + 3 * n) = true → f_X8_holds_4 f b (nI r) (nI (4 * r + n + 1)) τ = some (bI (xAll g v r c), τ) := fun t => by
          have := ih (n + 1) (by omega) (by omega) (by rw [xAll_s, hall, t]; rfl)
          exact this
        have badd : xTest g v (12 * r + 3 * n) = false → xAll g v r c = false := fun t => by
          have z : xAll g v r (n + 1) = false := by rw [xAll_s, t, Bool.and_false]
          have := xAll_false z (c - (n + 1))
          rw [show n + 1 + (c - (n + 1)) = c by omega] at this
          exact this
        by_cases s1 : g 72 (12 * r + 3 * n + 1) = 60
        · rw [if_pos s1]
          rw [xTest_60 s1 ek hk] at good badd
          by_cases s2 : g 72 (12 * r + 3 * n + 2) ≤ v k
          · rw [if_pos s2, badd (decide_eq_false (Int32.not_lt.mpr s2))]
            rfl
          · rw [if_neg s2]
            exact good (decide_eq_true (Int32.not_le.mp s2))
        · rw [if_neg s1]
          by_cases s3 : g 72 (12 * r + 3 * n + 1) = 62
          · rw [if_pos s3]
            rw [xTest_62 s1 s3 ek hk] at good badd
            by_cases s2 : v k ≤ g 72 (12 * r + 3 * n + 2)
            · rw [if_pos s2, badd (decide_eq_false (Int32.not_lt.mpr s2))]
              rfl
            · rw [if_neg s2]
              exact good (decide_eq_true (Int32.not_le.mp s2))
          · rw [if_neg s3]
            rw [xTest_61 s1 s3 ek hk] at good badd
            by_cases s2 : v k = g 72 (12 * r + 3 * n + 2)
            · rw [if_pos s2]
              exact good (decide_eq_true s2)
            · rw [if_neg s2, badd (decide_eq_false s2)]
              rfl
  unfold f_X8_holds
  rw [show (nI r * 4 : Int32) = nI (4 * r + 0) by rw [show (4 : Int32) = nI 4 from rfl, pk_mul, Nat.mul_comm]; rfl]
  exact key aN 0 (by omega) (by show c < 0 + 1000000; omega) rfl
theorem s_thatHold (hw : gW g N R) (h : cG g N R b τ) {v : Nat → Int32} (hv : ∀ k, k < 10 → gI τ 21 k = v k) : f_X8_thatHold b τ = some (xHold g R v, τ) := by
  have hR := hw.hR
  have okb := h.okb
  have outer : ∀ (f r : Nat), r ≤ R → R < r + f → f_X8_thatHold_4 f b (fOr (fun r => if xAll g v r (g 71 r).toNatClampNeg then xBit (nI r) else 0) r) (nI r) τ = some (xHold g R v, τ) := by
    intro f
    induction f with
    | zero => intro r h1 h2; omega
    | succ f ih =>
      intro r h1 h2
      show f_X8_thatHold_4_b (f_X8_thatHold_4 f) b _ (nI r) τ = _
      unfold f_X8_thatHold_4_b f_X8_thatHold_27
      rw [if_pos okb, h.sz]
      by_cases hr : r = R
      · subst hr
        rw [if_pos (Int32.le_refl _)]
        rfl
      · have z := ih (r + 1) (by omega) (by omega)
        rw [fOr_s] at z
        rw [if_neg (fun q => by rw [nI_leI (by omega) (by omega)] at q; omega), if_pos okb, s_holds hw h hv (by omega)]
        simp only [Option.bind_some, bI_0, nI_1]
        cases ha : xAll g v r (g 71 r).toNatClampNeg with
        | false =>
          rw [ha, if_neg (by decide), Int32.or_zero] at z
          rw [if_pos rfl]
          exact z
        | true =>
          rw [ha, if_pos rfl] at z
          rw [if_neg (by decide)]
          exact z
  exact outer aN 0 (by omega) (by show R < 0 + 1000000; omega)
theorem s_weigh (hw : gW g N R) (h : cG g N R b τ) (s : Int32) : f_X8_weigh b s τ = some (xWt g R s, τ) := by
  have hR := hw.hR
  have okb := h.okb
  obtain ⟨k0, k1, k2, k3, k4, k5, k6, l1, l2, l3, l4, l5, l6⟩ := bk_ok b h.hb
  have hg : gN τ = 84 + N := h.gn
  have hb := h.hb
  have g2 : aSh (b + 2) = 13 ∧ b + 2 < gN τ := ⟨k2, by omega⟩
  have outer : ∀ (f r : Nat), r ≤ R → R < r + f → f_X8_weigh_4 f b s (fSum (fun r => if xHas s (nI r) then g 70 r else 0) r) (nI r) τ = some (xWt g R s, τ) := by
    intro f
    induction f with
    | zero => intro r h1 h2; omega
    | succ f ih =>
      intro r h1 h2
      show f_X8_weigh_4_b (f_X8_weigh_4 f) b s _ (nI r) τ = _
      unfold f_X8_weigh_4_b f_X8_weigh_30
      rw [if_pos okb, h.sz]
      by_cases hr : r = R
      · subst hr
        rw [if_pos (Int32.le_refl _)]
        rfl
      · have z := ih (r + 1) (by omega) (by omega)
        rw [fSum_s] at z
        rw [if_neg (fun q => by rw [nI_leI (by omega) (by omega)] at q; omega), nI_1]
        by_cases c : (s >>> (nI r &&& 31)) &&& 1 = 1
        · have e : xHas s (nI r) = true := decide_eq_true c
          rw [e, if_pos rfl] at z
          rw [if_pos c, if_pos g2, l2, if_pos (ix_in (by omega) (by omega)), ix_cl (by omega), (h.rul (show r < R by omega)).1]
          exact z
        · have e : xHas s (nI r) = false := decide_eq_false c
          rw [e, if_neg (by decide), Int32.add_zero] at z
          rw [if_neg c]
          exact z
  exact outer aN 0 (by omega) (by show R < 0 + 1000000; omega)
theorem s_weightOf (hw : gW g N R) (h : Ag g τ) (s : Int32) : f_X12_weightOf s τ = some (xWt g R s, τ) := by
  have hR := hw.hR
  have e20 : gI τ 57 20 = nI R := by rw [h.c (by omega), hw.n20]
  have outer : ∀ (f r : Nat), r ≤ R → R < r + f → f_X12_weightOf_4 f s (fSum (fun r => if xHas s (nI r) then g 70 r else 0) r) (nI r) τ = some (xWt g R s, τ) := by
    intro f
    induction f with
    | zero => intro r h1 h2; omega
    | succ f ih =>
      intro r h1 h2
      show f_X12_weightOf_4_b (f_X12_weightOf_4 f) s _ (nI r) τ = _
      unfold f_X12_weightOf_4_b f_X12_weightOf_32
      rw [e20]
      by_cases hr : r = R
      · subst hr
        rw [if_pos (Int32.le_refl _)]
        rfl
      · have z := ih (r + 1) (by omega) (by omega)
        rw [fSum_s] at z
        rw [if_neg (fun q => by rw [nI_leI (by omega) (by omega)] at q; omega), nI_1]
        by_cases c : (s >>> (nI r &&& 31)) &&& 1 = 1
        · have e : xHas s (nI r) = true := decide_eq_true c
          rw [e, if_pos rfl] at z
          rw [if_pos c, if_pos (ix_in (by omega) (by omega)), ix_cl (by omega), h.row r (by omega)]
          exact z
        · have e : xHas s (nI r) = false := decide_eq_false c
          rw [e, if_neg (by decide)] at z
          rw [if_neg c]
          exact z
  exact outer aN 0 (by omega) (by show R < 0 + 1000000; omega)
theorem s_actAt (h : cG g N R b τ) (s : Int32) : f_X8_actAt b s τ = some (xAct g s, τ) := by
  have okb := h.okb
  obtain ⟨k0, k1, k2, k3, k4, k5, k6, l1, l2, l3, l4, l5, l6⟩ := bk_ok b h.hb
  have hg : gN τ = 84 + N := h.gn
  have hb := h.hb
  obtain ⟨-, -, q2, q3⟩ := h.lim
  unfold f_X8_actAt f_X8_actAt_29 xAct
  have c3 : (3 : Int32).toNatClampNeg = 3 := rfl
  have c2 : (2 : Int32).toNatClampNeg = 2 := rfl
  rw [if_pos okb, if_pos ⟨k1, by omega⟩, l1, if_pos (show inB 3 4 by decide), if_pos (show inB 2 4 by decide), c3, c2, q3, q2]
  by_cases d1 : s < g 57 18
  · rw [if_pos d1, if_neg (Int32.not_le.mpr d1)]
    by_cases d2 : s < g 57 17
    · rw [if_pos d2, if_neg (Int32.not_le.mpr d2)]
    · rw [if_neg d2, if_pos (Int32.not_lt.mp d2)]
  · rw [if_neg d1, if_pos (Int32.not_lt.mp d1)]
theorem s_actBy (h : Ag g τ) (s : Int32) : f_X12_actBy s τ = some (xAct g s, τ) := by
  unfold f_X12_actBy f_X12_actBy_25 xAct
  rw [h.c (k := 18) (by omega), h.c (k := 17) (by omega)]
  by_cases d1 : s < g 57 18
  · rw [if_pos d1, if_neg (Int32.not_le.mpr d1)]
    by_cases d2 : s < g 57 17
    · rw [if_pos d2, if_neg (Int32.not_le.mpr d2)]
    · rw [if_neg d2, if_pos (Int32.not_lt.mp d2)]
  · rw [if_neg d1, if_pos (Int32.not_lt.mp d1)]
end RU
