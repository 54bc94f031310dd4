/-! ===== the class gathers a payment's features: one payment ahead ===== -/
section GA
variable {g : Nat → Nat → Int32} {N R b : Nat} {τ : aSt}
theorem cG.wr (h : cG g N R b τ) {a k : Nat} {v : Int32} (hn : ¬ cC b a k) : cG g N R b (sI τ a k v) := h.fr (C := fun x j => x = a ∧ j = k) (Fr.sI Fr.rf ⟨rfl, rfl⟩) (fun x j q => by rw [q.1, q.2]; exact hn)
theorem cC_row {a k : Nat} (h : b = 12 ∨ b = 34) (ha : 19 ≤ a ∧ a ≤ 33) : ¬ cC b a k := by
  unfold cC
  omega
theorem cG.s2 (h : cG g N R b τ) {a k : Nat} {v : Int32} (ha : 19 ≤ a ∧ a ≤ 33) : cG g N R b (sI τ a k v) := h.wr (cC_row h.hb ha)
theorem s_inOrd (hw : gW g N R) (h : cG g N R b τ) {i : Nat} (hi : i < N) : f_X3_inOrder (nI i) τ = some (some (84 + xOrd g i), τ) := by
  have hN := hw.hN
  unfold f_X3_inOrder f_X3_inOrder_24
  have e1 : nI N - 1 = nI (N - 1) := by
    obtain ⟨m, rfl⟩ : ∃ m, N = m + 1 := ⟨N - 1, by omega⟩
    rw [nI_s1]
    rfl
  have c : 0 ≤ nI i ∧ nI i ≤ nI N - 1 := by
    rw [e1, nI_leI (by omega) (by omega)]
    exact ⟨nI_ge0 (by omega), by omega⟩
  rw [h.n2, s_within]
  simp only [Option.bind_some, bI_0, decide_eq_false_iff_not]
  rw [if_neg (not_not_intro c), if_pos (ix_in (by omega) (by omega)), ix_cl (by omega), h.ord hi]
theorem xFadN_0 : ∀ k, xFadN k 0 = 0
  | 0 => rfl
  | k + 1 => by rw [xFadN_s]; exact xFadN_0 k
theorem s_fade (hw : gW g N R) (e6 : gI τ 20 6 = g 57 16) (v t : Int32) : f_X7_fade v t τ = some (xFad g v t, τ) := by
  obtain ⟨w, d, l, k, -, -, d1, d2, -, -, -, hd, -⟩ := hw.lim
  have nz : ¬ g 57 16 = 0 := fun q => by
    rw [hd] at q
    have := congrArg Int32.toInt q
    rw [pi_nI (by omega)] at this
    have e0 : (0 : Int32).toInt = 0 := rfl
    omega
  have ng : ¬ g 57 16 ≤ 0 := by
    rw [hd]
    exact nI_nle (by omega) (by omega)
  have key : ∀ (f k : Nat) (v x : Int32), k ≤ 40 → 40 < k + f → f_X7_fade_24 f v x (nI k) τ = some (xFadN (min 40 x.toInt.toNat - k) v, τ) := by
    intro f
    induction f with
    | zero => intro k v x h1 h2; omega
    | succ f ih =>
      intro k v x h1 h2
      show f_X7_fade_24_b (f_X7_fade_24 f) v x (nI k) τ = _
      unfold f_X7_fade_24_b f_X7_fade_50
      have hx : x ≤ nI k ↔ x.toInt ≤ k := by rw [pi_le, pi_nI (by omega)]
      have h40 : (40 : Int32) ≤ nI k ↔ 40 ≤ k := by rw [show (40 : Int32) = nI 40 from rfl, nI_leI (by omega) (by omega)]
      by_cases c1 : x ≤ nI k
      · rw [if_pos c1]
        rw [hx] at c1
        rw [show min 40 x.toInt.toNat - k = 0 by omega]
        rfl
      · rw [if_neg c1]
        rw [hx] at c1
        by_cases c2 : (40 : Int32) ≤ nI k
        · rw [if_pos c2]
          rw [h40] at c2
          rw [show min 40 x.toInt.toNat - k = 0 by omega]
          rfl
        · rw [if_neg c2, nI_1]
          rw [h40] at c2
          rw [ih (k + 1) _ x (by omega) (by omega), show min 40 x.toInt.toNat - k = (min 40 x.toInt.toNat - (k + 1)) + 1 by omega, xFadN_s]
  unfold f_X7_fade f_X7_fade_19
  rw [e6, if_neg ng, if_pos nz]
  exact key aN 0 v _ (by omega) (by show 40 < 0 + 1000000; omega)
/-- the profile's part of a payment ahead -/
def pfV (g : Nat → Nat → Int32) (q : Nat) (v la : Int32) : Int32 := xFad g v (g 62 q - la) + (g 65 q - xFad g v (g 62 q - la)) / 4
theorem s_add160 (hw : gW g N R) (h : cG g N R b τ) (e6 : gI τ 20 6 = g 57 16) {q : Nat} (hq : q < N) : f_X7_add_160 (84 + q) τ = some ((), sI (sI (sI τ 20 1 (xFad g (gI τ 20 1) (g 62 q - gI τ 20 4))) 20 1 (pfV g q (gI τ 20 1) (gI τ 20 4))) 20 4 (g 62 q)) := by
  have ok := h.ok hq
  obtain ⟨p0, p1, p2, p3, p4, p5, p6⟩ := h.pay hq
  have o : ∀ (σ : aSt) (j k : Nat) (v : Int32), gI (sI σ 20 j v) (84 + q) k = gI σ (84 + q) k := fun σ j k v => gI_other (Or.inl (by omega))
  unfold f_X7_add_160
  rw [if_pos ok, p1, s_fade hw e6]
  simp only [Option.bind_some]
  have ok2 : aSh (84 + q) = 4 ∧ 84 + q < gN (sI τ 20 1 (xFad g (gI τ 20 1) (g 62 q - gI τ 20 4))) := ok
  rw [if_pos ok2, o, o, o, p4, p1, gI_same]
  rfl
/-- what a payment ahead adds, in the window or not -/
theorem s_add84 (hw : gW g N R) (h : cG g N R b τ) (e6 : gI τ 20 6 = g 57 16) {p q : Nat} (hp : p < N) (hq : q < N) (la : Bool) : ∃ τ', f_X7_add_84 (84 + q) (84 + p) (bI la) τ = some ((), τ') ∧ Fr (fun a k => (a = 20 ∧ (k = 1 ∨ k = 3 ∨ k = 4)) ∨ (a = 21 ∧ (k = 3 ∨ k = 4 ∨ k = 6))) τ τ' ∧ gL τ' = gL τ ∧ gI τ' 21 3 = gI τ 21 3 + (if la && xPay g p q then 1 else 0) ∧ gI τ' 21 4 = gI τ 21 4 + (if la && xPay g p q then g 65 q else 0) ∧ gI τ' 20 3 = gI τ 20 3 ||| (if la && xPay g p q then xBit (g 64 q) else 0) ∧ gI τ' 21 6 = gI τ 21 6 + (if xPay g p q && xPye g p q then 1 else 0) ∧ gI τ' 20 1 = (if xPay g p q then pfV g q (gI τ 20 1) (gI τ 20 4) else gI τ 20 1) ∧ gI τ' 20 4 = (if xPay g p q then g 62 q else gI τ 20 4) := by
  have okq := h.ok hq
  have okp := h.ok hp
  obtain ⟨p0, p1, p2, p3, p4, p5, p6⟩ := h.pay hq
  obtain ⟨r0, r1, r2, r3, r4, r5, r6⟩ := h.pay hp
  -- behind the window's part
  have k138 : ∀ (σ : aSt), cG g N R b σ → gI σ 20 6 = g 57 16 → ∃ τ', f_X7_add_138 (84 + q) (84 + p) σ = some ((), τ') ∧ Fr (fun a k => (a = 20 ∧ (k = 1 ∨ k = 4)) ∨ (a = 21 ∧ k = 6)) σ τ' ∧ gL τ' = gL σ ∧ gI τ' 21 6 = gI σ 21 6 + (if xPye g p q then 1 else 0) ∧ gI τ' 20 1 = pfV g q (gI σ 20 1) (gI σ 20 4) ∧ gI τ' 20 4 = g 62 q := by
    intro σ hs e6s
    obtain ⟨-, -, -, s3, -⟩ := hs.pay hq
    obtain ⟨-, -, -, u3, -⟩ := hs.pay hp
    unfold f_X7_add_138
    rw [if_pos (hs.ok hq), if_pos (hs.ok hp), s3, u3]
    by_cases c : g 64 q = g 64 p
    · have y : xPye g p q = true := decide_eq_true c
      have hs' : cG g N R b (sI σ 21 6 (gI σ 21 6 + 1)) := hs.s2 (by omega)
      rw [if_pos c, s_add160 hw hs' (by rw [gI_other (Or.inl (by omega))]; exact e6s) hq]
      refine ⟨_, rfl, ?_, rfl, ?_, ?_, ?_⟩
      · refine Fr.sI (Fr.sI (Fr.sI (Fr.sI Fr.rf ?_) ?_) ?_) ?_ <;> simp
      · rw [gI_other (Or.inl (by omega)), gI_other (Or.inl (by omega)), gI_other (Or.inl (by omega)), gI_same, y]
        rfl
      · rw [gI_other (Or.inr (by omega)), gI_same, gI_other (Or.inl (by omega)), gI_other (Or.inl (by omega))]
      · rw [gI_same]
    · have y : xPye g p q = false := decide_eq_false c
      rw [if_neg c, s_add160 hw hs e6s hq]
      refine ⟨_, rfl, ?_, rfl, ?_, ?_, ?_⟩
      · refine Fr.sI (Fr.sI (Fr.sI Fr.rf ?_) ?_) ?_ <;> simp
      · rw [gI_other (Or.inl (by omega)), gI_other (Or.inl (by omega)), gI_other (Or.inl (by omega)), y]
        exact (Int32.add_zero _).symm
      · rw [gI_other (Or.inr (by omega)), gI_same]
      · rw [gI_same]
  unfold f_X7_add_84
  rw [if_pos okq, if_pos okp, p2, r2]
  by_cases c : g 63 q = g 63 p
  · have y : xPay g p q = true := decide_eq_true c
    rw [if_pos c, y]
    simp only [Bool.and_true, Bool.true_and, if_true]
    cases la with
    | false =>
      obtain ⟨τ', e1, e2, e3, e4, e5, e7⟩ := k138 τ h e6
      rw [if_pos (show bI false = 0 from rfl)]
      refine ⟨τ', e1, e2.mono (fun a k z => by omega), e3, ?_, ?_, ?_, e4, e5, e7⟩
      · rw [e2.2.1 21 3 (by omega)]
        exact (Int32.add_zero _).symm
      · rw [e2.2.1 21 4 (by omega)]
        exact (Int32.add_zero _).symm
      · rw [e2.2.1 20 3 (by omega)]
        exact Int32.or_zero.symm
    | true =>
      rw [if_neg (show ¬ bI true = 0 by decide)]
      have o1 : gI (sI τ 21 3 (gI τ 21 3 + 1)) (84 + q) 4 = g 65 q := by rw [gI_other (Or.inl (by omega)), p4]
      have o2 : gI (sI τ 21 3 (gI τ 21 3 + 1)) 21 4 = gI τ 21 4 := gI_other (Or.inr (by omega))
      rw [o1, o2]
      have o3 : gI (sI (sI τ 21 3 (gI τ 21 3 + 1)) 21 4 (gI τ 21 4 + g 65 q)) (84 + q) 3 = g 64 q := by rw [gI_other (Or.inl (by omega)), gI_other (Or.inl (by omega)), p3]
      have o4 : gI (sI (sI τ 21 3 (gI τ 21 3 + 1)) 21 4 (gI τ 21 4 + g 65 q)) 20 3 = gI τ 20 3 := by rw [gI_other (Or.inl (by omega)), gI_other (Or.inl (by omega))]
      rw [o3, o4]
      obtain ⟨τ', e1, e2, e3, e4, e5, e7⟩ := k138 (sI (sI (sI τ 21 3 (gI τ 21 3 + 1)) 21 4 (gI τ 21 4 + g 65 q)) 20 3 (gI τ 20 3 ||| xBit (g 64 q))) (((h.s2 (by omega)).s2 (by omega)).s2 (by omega)) (by rw [gI_other (Or.inr (by omega)), gI_other (Or.inl (by omega)), gI_other (Or.inl (by omega))]; exact e6)
      refine ⟨τ', e1, (Fr.sI (Fr.sI (Fr.sI Fr.rf ?_) ?_) ?_).tr (e2.mono (fun a k z => by omega)), e3, ?_, ?_, ?_, ?_, ?_, e7⟩
      · simp
      · simp
      · simp
      · rw [e2.2.1 21 3 (by omega), gI_other (Or.inl (by omega)), gI_other (Or.inr (by omega)), gI_same]
        rfl
      · rw [e2.2.1 21 4 (by omega), gI_other (Or.inl (by omega)), gI_same]
        rfl
      · rw [e2.2.1 20 3 (by omega), gI_same]
        rfl
      · rw [e4, gI_other (Or.inl (by omega)), gI_other (Or.inr (by omega)), gI_other (Or.inr (by omega))]
      · rw [e5, gI_other (Or.inr (by omega)), gI_other (Or.inl (by omega)), gI_other (Or.inl (by omega)), gI_other (Or.inr (by omega)), gI_other (Or.inl (by omega)), gI_other (Or.inl (by omega))]
  · have y : xPay g p q = false := decide_eq_false c
    rw [if_neg c, y]
    simp only [Bool.and_false, Bool.false_and, Bool.false_eq_true, if_false, Int32.add_zero, Int32.or_zero]
    exact ⟨τ, rfl, Fr.rf, rfl, rfl, rfl, rfl, rfl, rfl, rfl⟩
/-- links -/
def tL (g : Nat → Nat → Int32) (w q : Nat) : Int32 := (if g 63 q = nI w then xBit (g 64 q) else 0) ||| (if g 64 q = nI w then xBit (g 63 q) else 0)
theorem nI_inj {a b : Nat} (ha : a < 2147483648) (hb : b < 2147483648) (h : nI a = nI b) : a = b := by
  have := congrArg Int32.toInt h
  rw [pi_nI ha, pi_nI hb] at this
  omega
theorem s_add (hw : gW g N R) (h : cG g N R b τ) (e5 : gI τ 20 5 = g 57 15) (e6 : gI τ 20 6 = g 57 16) {p q : Nat} (hp : p < N) (hq : q < N) : ∃ τ', f_X7_add (84 + q) (84 + p) τ = some ((), τ') ∧ Fr (fun a k => (a = 20 ∧ (k = 1 ∨ k = 3 ∨ k = 4)) ∨ (a = 21 ∧ (k = 3 ∨ k = 4 ∨ k = 6 ∨ k = 9)) ∨ a = 22) τ τ' ∧ gL τ' = gL τ ∧ gI τ' 21 3 = gI τ 21 3 + (if xLate g p q && xPay g p q then 1 else 0) ∧ gI τ' 21 4 = gI τ 21 4 + (if xLate g p q && xPay g p q then g 65 q else 0) ∧ gI τ' 20 3 = gI τ 20 3 ||| (if xLate g p q && xPay g p q then xBit (g 64 q) else 0) ∧ gI τ' 21 6 = gI τ 21 6 + (if xPay g p q && xPye g p q then 1 else 0) ∧ gI τ' 21 9 = gI τ 21 9 + (if xLate g p q && xPye g p q then 1 else 0) ∧ gI τ' 20 1 = (if xPay g p q then pfV g q (gI τ 20 1) (gI τ 20 4) else gI τ 20 1) ∧ gI τ' 20 4 = (if xPay g p q then g 62 q else gI τ 20 4) ∧ ∀ w, w < 20 → gI τ' 22 w = gI τ 22 w ||| tL g w q := by
  have okq := h.ok hq
  have okp := h.ok hp
  obtain ⟨p0, p1, p2, p3, p4, p5, p6⟩ := h.pay hq
  obtain ⟨r0, r1, r2, r3, r4, r5, r6⟩ := h.pay hp
  obtain ⟨u, hu, eu⟩ := hw.r63 hq
  obtain ⟨v, hv, ev⟩ := hw.r64 hq
  have ibu : inB (nI u) 20 := ix_in hu (by omega)
  have ibv : inB (nI v) 20 := ix_in hv (by omega)
  have clu : (nI u).toNatClampNeg = u := ix_cl (by omega)
  have clv : (nI v).toNatClampNeg = v := ix_cl (by omega)
  have o : ∀ (σ : aSt) (j k : Nat) (x : Int32), gI (sI σ 22 j x) (84 + q) k = gI σ (84 + q) k := fun σ j k x => gI_other (Or.inl (by omega))
  have o' : ∀ (σ : aSt) (j k : Nat) (x : Int32), gI (sI σ 22 j x) (84 + p) k = gI σ (84 + p) k := fun σ j k x => gI_other (Or.inl (by omega))
  generalize hS : sI (sI τ 22 u (gI τ 22 u ||| xBit (nI v))) 22 v (gI (sI τ 22 u (gI τ 22 u ||| xBit (nI v))) 22 v ||| xBit (nI u)) = S
  have cS : cG g N R b S := by rw [← hS]; exact (h.s2 (by omega)).s2 (by omega)
  have fS : Fr (fun a _ => a = 22) τ S := by
    rw [← hS]
    refine Fr.sI (Fr.sI Fr.rf ?_) ?_ <;> rfl
  have lS : gL S = gL τ := by rw [← hS]; rfl
  have wS : ∀ w, w < 20 → gI S 22 w = gI τ 22 w ||| tL g w q := by
    intro w hw2
    unfold tL
    rw [eu, ev, ← hS]
    by_cases c1 : w = v
    · subst c1
      rw [gI_same, if_pos rfl]
      by_cases c2 : w = u
      · subst c2
        rw [gI_same, if_pos rfl, Int32.or_assoc]
      · rw [gI_other (Or.inr c2), if_neg (fun z => c2 (nI_inj (by omega) (by omega) z).symm), Int32.zero_or]
    · rw [gI_other (Or.inr c1), if_neg (fun z => c1 (nI_inj (by omega) (by omega) z).symm), Int32.or_zero]
      by_cases c2 : w = u
      · subst c2
        rw [gI_same, if_pos rfl]
      · rw [gI_other (Or.inr c2), if_neg (fun z => c2 (nI_inj (by omega) (by omega) z).symm), Int32.or_zero]
  have k21 : ∀ t0 : Int32, f_X7_add_21 (84 + q) (84 + p) t0 τ = if t0 = 0 then f_X7_add_84 (84 + q) (84 + p) t0 S else if g 64 q = g 64 p then f_X7_add_84 (84 + q) (84 + p) t0 (sI S 21 9 (gI S 21 9 + 1)) else f_X7_add_84 (84 + q) (84 + p) t0 S := by
    intro t0
    have okp' : aSh (84 + p) = 4 ∧ 84 + p < gN S := cS.ok hp
    rw [← hS] at okp' ⊢
    unfold xBit at okp' ⊢
    unfold f_X7_add_21
    simp only [o, o', p2, p3, r3, eu, ev, if_pos okq, if_pos ibu, if_pos ibv, clu, clv]
    rw [if_pos okp']
  have go : ∀ (la : Bool) (S' : aSt), cG g N R b S' → Fr (fun a k => (a = 21 ∧ k = 9) ∨ a = 22) τ S' → gL S' = gL τ → (∀ w, w < 20 → gI S' 22 w = gI τ 22 w ||| tL g w q) → gI S' 21 9 = gI τ 21 9 + (if la && xPye g p q then 1 else 0) → ∃ τ', f_X7_add_84 (84 + q) (84 + p) (bI la) S' = some ((), τ') ∧ Fr (fun a k => (a = 20 ∧ (k = 1 ∨ k = 3 ∨ k = 4)) ∨ (a = 21 ∧ (k = 3 ∨ k = 4 ∨ k = 6 ∨ k = 9)) ∨ a = 22) τ τ' ∧ gL τ' = gL τ ∧ gI τ' 21 3 = gI τ 21 3 + (if la && xPay g p q then 1 else 0) ∧ gI τ' 21 4 = gI τ 21 4 + (if la && xPay g p q then g 65 q else 0) ∧ gI τ' 20 3 = gI τ 20 3 ||| (if la && xPay g p q then xBit (g 64 q) else 0) ∧ gI τ' 21 6 = gI τ 21 6 + (if xPay g p q && xPye g p q then 1 else 0) ∧ gI τ' 21 9 = gI τ 21 9 + (if la && xPye g p q then 1 else 0) ∧ gI τ' 20 1 = (if xPay g p q then pfV g q (gI τ 20 1) (gI τ 20 4) else gI τ 20 1) ∧ gI τ' 20 4 = (if xPay g p q then g 62 q else gI τ 20 4) ∧ ∀ w, w < 20 → gI τ' 22 w = gI τ 22 w ||| tL g w q := by
    intro la S' cS' fS' lS' wS' nS'
    have d : ∀ a k, a ≠ 22 → ¬ (a = 21 ∧ k = 9) → gI S' a k = gI τ a k := fun a k z1 z2 => fS'.2.1 a k (by omega)
    obtain ⟨τ', a1, a2, a3, a4, a5, a6, a7, a8, a9⟩ := s_add84 hw cS' (by rw [d 20 6 (by omega) (by omega)]; exact e6) hp hq la
    rw [d 21 3 (by omega) (by omega)] at a4
    rw [d 21 4 (by omega) (by omega)] at a5
    rw [d 20 3 (by omega) (by omega)] at a6
    rw [d 21 6 (by omega) (by omega)] at a7
    rw [d 20 1 (by omega) (by omega), d 20 4 (by omega) (by omega)] at a8
    rw [d 20 4 (by omega) (by omega)] at a9
    refine ⟨τ', a1, (fS'.mono (fun a k z => by omega)).tr (a2.mono (fun a k z => by omega)), a3.trans lS', a4, a5, a6, a7, ?_, a8, a9, fun w hw2 => ?_⟩
    · rw [a2.2.1 21 9 (by omega), nS']
    · rw [a2.2.1 22 w (by omega), wS' w hw2]
  unfold f_X7_add
  rw [if_pos okq, if_pos okp, p1, r1, e5, k21, k21]
  by_cases c : g 62 q ≤ g 62 p - g 57 15
  · have l : xLate g p q = false := decide_eq_false (Int32.not_lt.mpr c)
    rw [if_pos c, if_pos rfl, l]
    exact go false S cS (fS.mono (fun a k z => Or.inr z)) lS wS (by rw [fS.2.1 21 9 (by omega)]; exact (Int32.add_zero _).symm)
  · have l : xLate g p q = true := decide_eq_true (Int32.not_le.mp c)
    rw [if_neg c, if_neg (by decide), l]
    by_cases c3 : g 64 q = g 64 p
    · have z : xPye g p q = true := decide_eq_true c3
      rw [if_pos c3]
      refine go true _ (cS.s2 (by omega)) ((fS.mono (fun a k z => Or.inr z)).sI (Or.inl ⟨rfl, rfl⟩)) lS (fun w hw2 => ?_) ?_
      · rw [gI_other (Or.inl (by omega)), wS w hw2]
      · rw [gI_same, fS.2.1 21 9 (by omega), z]
        rfl
    · have z : xPye g p q = false := decide_eq_false c3
      rw [if_neg c3]
      exact go true S cS (fS.mono (fun a k z => Or.inr z)) lS wS (by rw [fS.2.1 21 9 (by omega), z]; exact (Int32.add_zero _).symm)
end GA
