/-! ===== the queue ===== -/
theorem gLs (σ : aSt) (a k : Nat) (v : Int64) : gL (sL σ a k v) a k = v := by rw [gL_sL, if_pos rfl, if_pos rfl]
theorem gLo {σ : aSt} {a k j : Nat} {v : Int64} (h : j ≠ k) : gL (sL σ a k v) a j = gL σ a j := by rw [gL_sL, if_pos rfl, if_neg h]
theorem gRs (σ : aSt) (a k : Nat) (v : Option Nat) : gR (sR σ a k v) a k = v := by rw [gR_sR, if_pos rfl, if_pos rfl]
theorem gRo {σ : aSt} {a k j : Nat} {v : Option Nat} (h : j ≠ k) : gR (sR σ a k v) a j = gR σ a j := by rw [gR_sR, if_pos rfl, if_neg h]
def qK (w : Nat → Int64) (q : Nat → Nat) (p : Nat) : Nat → Nat
  | 0 => 0
  | k + 1 => if w p ≤ w (q k) then k + 1 else qK w q p k
theorem qK_le (w : Nat → Int64) (q : Nat → Nat) (p : Nat) : ∀ k, qK w q p k ≤ k
  | 0 => Nat.le_refl _
  | k + 1 => by
    show (if w p ≤ w (q k) then k + 1 else qK w q p k) ≤ _
    have := qK_le w q p k
    by_cases c : w p ≤ w (q k)
    · rw [if_pos c]; omega
    · rw [if_neg c]; omega
/-- the queue after so many in ORDER: who stands where, and how many -/
def qL (w : Nat → Int64) (c : Nat → Bool) (o : Nat → Nat) : Nat → (Nat → Nat) × Nat
  | 0 => (fun _ => 0, 0)
  | i + 1 => if c (o i) then (insO (qL w c o i).1 (o i) (qK w (qL w c o i).1 (o i) (qL w c o i).2), (qL w c o i).2 + 1) else qL w c o i
theorem qL_le (w : Nat → Int64) (c : Nat → Bool) (o : Nat → Nat) : ∀ i, (qL w c o i).2 ≤ i
  | 0 => Nat.le_refl _
  | i + 1 => by
    have := qL_le w c o i
    show (if c (o i) then (insO (qL w c o i).1 (o i) (qK w (qL w c o i).1 (o i) (qL w c o i).2), (qL w c o i).2 + 1) else qL w c o i).2 ≤ _
    by_cases z : c (o i) = true
    · rw [if_pos z]; show _ + 1 ≤ _; omega
    · rw [if_neg z]; omega
theorem insO_lt {q : Nat → Nat} {p m K N : Nat} (hp : p < N) (hK : K ≤ m) (hq : ∀ j, j < m → q j < N) : ∀ j, j < m + 1 → insO q p K j < N := by
  intro j hj
  unfold insO
  by_cases c : j < K
  · rw [if_pos c]; exact hq j (by omega)
  · rw [if_neg c]
    by_cases d : j = K
    · rw [if_pos d]; exact hp
    · rw [if_neg d]; exact hq _ (by omega)
theorem qL_lt {w : Nat → Int64} {c : Nat → Bool} {o : Nat → Nat} {N : Nat} (ho : ∀ i, i < N → o i < N) : ∀ i, i ≤ N → ∀ j, j < (qL w c o i).2 → (qL w c o i).1 j < N
  | 0, _ => fun j hj => absurd hj (Nat.not_lt_zero _)
  | i + 1, hi => by
    have h := qL_lt (w := w) (c := c) ho i (by omega)
    show ∀ j, j < (if c (o i) then (insO (qL w c o i).1 (o i) (qK w (qL w c o i).1 (o i) (qL w c o i).2), (qL w c o i).2 + 1) else qL w c o i).2 → (if c (o i) then (insO (qL w c o i).1 (o i) (qK w (qL w c o i).1 (o i) (qL w c o i).2), (qL w c o i).2 + 1) else qL w c o i).1 j < N
    by_cases z : c (o i) = true
    · rw [if_pos z]
      exact insO_lt (ho i (by omega)) (qK_le _ _ _ _) h
    · rw [if_neg z]
      exact h
/-- how the class has it -/
def qC (w : Nat → Int64) (q : Nat → Nat) (m : Nat) (τ : aSt) : Prop := gI τ 11 2 = nI m ∧ ∀ i, i < m → gL τ 25 i = w (q i) ∧ gR τ 19 i = some (84 + q i)
theorem s_qIn {w : Nat → Int64} {q : Nat → Nat} {p m N : Nat} (hN : N ≤ 120) (hp : p < N) (hm : m < 120) (hq : ∀ j, j < m → q j < N) : ∀ (k f : Nat) (τ : aSt), k ≤ m → k < f → gN τ = 84 + N → gI τ 11 2 = nI m → (∀ i, i < k → gL τ 25 i = w (q i) ∧ gR τ 19 i = some (84 + q i)) → ∃ τ', f_X2_queueIn_16 f (84 + p) (w p) (nI k) τ = some ((), τ') ∧ Fr (fun a k => a = 19 ∨ (a = 11 ∧ k = 2)) τ τ' ∧ gI τ' = gI (sI τ 11 2 (nI (m + 1))) ∧ (∀ i, i ≤ k → gL τ' 25 i = w (insO q p (qK w q p k) i) ∧ gR τ' 19 i = some (84 + insO q p (qK w q p k) i)) ∧ (∀ i, k < i → gL τ' 25 i = gL τ 25 i ∧ gR τ' 19 i = gR τ 19 i) := by
  have fin : ∀ (k : Nat) (τ : aSt), k ≤ m → gN τ = 84 + N → gI τ 11 2 = nI m → (∀ i, i < k → gL τ 25 i = w (q i) ∧ gR τ 19 i = some (84 + q i)) → qK w q p k = k → ∃ τ', f_X2_queueIn_73 (84 + p) (w p) (nI k) τ = some ((), τ') ∧ Fr (fun a k => a = 19 ∨ (a = 11 ∧ k = 2)) τ τ' ∧ gI τ' = gI (sI τ 11 2 (nI (m + 1))) ∧ (∀ i, i ≤ k → gL τ' 25 i = w (insO q p (qK w q p k) i) ∧ gR τ' 19 i = some (84 + insO q p (qK w q p k) i)) ∧ (∀ i, k < i → gL τ' 25 i = gL τ 25 i ∧ gR τ' 19 i = gR τ 19 i) := by
    intro k τ hk hg h5 hr hK
    have ib : inB (nI k) 120 := ix_in (by omega) (by omega)
    refine ⟨sI (sR (sL τ 25 k (w p)) 19 k (some (84 + p))) 11 2 (nI (m + 1)), ?_, ?_, ?_, fun i hi => ?_, fun i hi => ?_⟩
    · unfold f_X2_queueIn_73
      rw [if_pos ib, if_pos ib, if_pos (show aSh (84 + p) = 4 ∧ 84 + p < gN (sL τ 25 (nI k).toNatClampNeg (w p)) from ⟨aSh_pay (by omega), by show _ < gN τ; omega⟩), ix_cl (by omega)]
      have e : gI (sR (sL τ 25 k (w p)) 19 k (some (84 + p))) 11 2 = nI m := h5
      rw [e, nI_1]
    · exact Fr.sI (Fr.sR (Fr.sL Fr.rf) (Or.inl rfl)) (Or.inr ⟨rfl, rfl⟩)
    · rfl
    · rw [hK]
      show gL (sL τ 25 k (w p)) 25 i = _ ∧ gR (sR (sL τ 25 k (w p)) 19 k (some (84 + p))) 19 i = _
      unfold insO
      by_cases z : i = k
      · subst z
        rw [gLs, gRs, if_neg (by omega), if_pos rfl]
        exact ⟨rfl, rfl⟩
      · rw [gLo z, gRo z, if_pos (by omega)]
        exact hr i (by omega)
    · show gL (sL τ 25 k (w p)) 25 i = _ ∧ gR (sR (sL τ 25 k (w p)) 19 k (some (84 + p))) 19 i = _
      rw [gLo (by omega), gRo (by omega)]
      exact ⟨rfl, rfl⟩
  intro k
  induction k with
  | zero =>
    intro f τ hk hf hg h5 hr
    obtain ⟨f, rfl⟩ : ∃ f', f = f' + 1 := ⟨f - 1, by omega⟩
    show ∃ τ', f_X2_queueIn_16_b (f_X2_queueIn_16 f) (84 + p) (w p) (nI 0) τ = _ ∧ _
    unfold f_X2_queueIn_16_b
    rw [if_pos (show nI 0 ≤ 0 from Int32.le_refl _)]
    exact fin 0 τ (by omega) hg h5 hr rfl
  | succ k ih =>
    intro f τ hk hf hg h5 hr
    obtain ⟨f, rfl⟩ : ∃ f', f = f' + 1 := ⟨f - 1, by omega⟩
    show ∃ τ', f_X2_queueIn_16_b (f_X2_queueIn_16 f) (84 + p) (w p) (nI (k + 1)) τ = _ ∧ _
    unfold f_X2_queueIn_16_b
    have ib : inB (nI k) 120 := ix_in (by omega) (by omega)
    have ib2 : inB (nI (k + 1)) 120 := ix_in (by omega) (by omega)
    have hnle : ¬ nI (k + 1) ≤ 0 := nI_nle (by omega) (by omega)
    obtain ⟨hl, hrk⟩ := hr k (by omega)
    have hl' : gL τ 25 (nI k).toNatClampNeg = w (q k) := by rw [ix_cl (by omega)]; exact hl
    have hr' : gR (sL τ 25 (nI (k + 1)).toNatClampNeg (w (q k))) 19 (nI k).toNatClampNeg = some (84 + q k) := by rw [ix_cl (n := k) (by omega)]; exact hrk
    rw [if_neg hnle, nI_s1, if_pos ib, hl']
    simp only [lc_ge]
    by_cases hb : w p ≤ w (q k)
    · rw [if_pos hb]
      refine fin (k + 1) τ hk hg h5 hr ?_
      show (if w p ≤ w (q k) then k + 1 else qK w q p k) = _
      rw [if_pos hb]
    · rw [if_neg hb, if_pos ib, if_pos ib2, if_pos ib, hr']
      simp only [oC_some]
      rw [if_pos ib2, if_pos (show aSh (84 + q k) = 4 ∧ 84 + q k < gN (sL τ 25 (nI (k + 1)).toNatClampNeg (w (q k))) from ⟨aSh_pay (by have := hq k (by omega); omega), by have := hq k (by omega); show _ < gN τ; omega⟩), ix_cl (by omega), nI_mm]
      have hK : qK w q p (k + 1) = qK w q p k := by
        show (if w p ≤ w (q k) then k + 1 else qK w q p k) = _
        rw [if_neg hb]
      have e1 : ∀ i, i < k → gL (sR (sL τ 25 (k + 1) (w (q k))) 19 (k + 1) (some (84 + q k))) 25 i = w (q i) ∧ gR (sR (sL τ 25 (k + 1) (w (q k))) 19 (k + 1) (some (84 + q k))) 19 i = some (84 + q i) := fun i hi => by
        show gL (sL τ 25 (k + 1) (w (q k))) 25 i = _ ∧ gR (sR (sL τ 25 (k + 1) (w (q k))) 19 (k + 1) (some (84 + q k))) 19 i = _
        rw [gLo (by omega), gRo (by omega)]
        exact hr i (by omega)
      obtain ⟨τ', f1, f2, f3, f4, f5⟩ := ih f (sR (sL τ 25 (k + 1) (w (q k))) 19 (k + 1) (some (84 + q k))) (by omega) (by omega) hg h5 e1
      refine ⟨τ', f1, (Fr.sR (Fr.sL Fr.rf) (Or.inl rfl)).tr f2, f3, fun i hi => ?_, fun i hi => ?_⟩
      · rw [hK]
        by_cases z : i = k + 1
        · subst z
          obtain ⟨y1, y2⟩ := f5 (k + 1) (by omega)
          rw [y1, y2]
          show gL (sL τ 25 (k + 1) (w (q k))) 25 (k + 1) = _ ∧ gR (sR (sL τ 25 (k + 1) (w (q k))) 19 (k + 1) (some (84 + q k))) 19 (k + 1) = _
          rw [gLs, gRs]
          have := qK_le w q p k
          unfold insO
          rw [if_neg (by omega), if_neg (by omega)]
          exact ⟨rfl, rfl⟩
        · exact f4 i (by omega)
      · obtain ⟨y1, y2⟩ := f5 i (by omega)
        rw [y1, y2]
        show gL (sL τ 25 (k + 1) (w (q k))) 25 i = _ ∧ gR (sR (sL τ 25 (k + 1) (w (q k))) 19 (k + 1) (some (84 + q k))) 19 i = _
        rw [gLo (by omega), gRo (by omega)]
        exact ⟨rfl, rfl⟩
def xS (g : Nat → Nat → Int32) (N R n : Nat) : Int32 := xWt g R (xSet g N R n 0 (g 65 n))
def xW (g : Nat → Nat → Int32) (N R n : Nat) : Int64 := (g 65 n).toInt64 * (xS g N R n).toInt64
def xC (g : Nat → Nat → Int32) (N R : Nat) (vd : Nat → Int32) (n : Nat) : Bool := decide (vd n = -1000000) && decide (xA g N R n 0 = 1)
def cQ (a k : Nat) : Prop := (19 ≤ a ∧ a ≤ 24) ∨ (a = 11 ∧ k = 2)
theorem cQ_ask {a k : Nat} (h : cQ a k) : cAsk a k := by
  unfold cQ at h
  unfold cAsk scr
  omega
theorem cQ_pers {a k : Nat} (h : cQ a k) : pers a k = false := by
  unfold cQ at h
  unfold pers
  simp only [Bool.or_eq_false_iff, Bool.and_eq_false_iff, decide_eq_false_iff_not]
  omega
theorem cSl_cQ {a k : Nat} (h : cSl a k) : cQ a k := by
  unfold cSl at h
  unfold cQ
  omega
section QU
variable {g : Nat → Nat → Int32} {N R b : Nat} {vd : Nat → Int32}
theorem s_lineL (hw : gW g N R) : ∀ (f k : Nat) (τ : aSt), cK g N R b τ → k ≤ N → N < k + f → (∀ n, n < N → gI τ (84 + n) 7 = vd n) → qC (xW g N R) (qL (xW g N R) (xC g N R vd) (xOrd g) k).1 (qL (xW g N R) (xC g N R vd) (xOrd g) k).2 τ → ∃ τ', f_X2_lineUp_7 f (nI k) τ = some ((), τ') ∧ Fr cQ τ τ' ∧ cK g N R b τ' ∧ qC (xW g N R) (qL (xW g N R) (xC g N R vd) (xOrd g) N).1 (qL (xW g N R) (xC g N R vd) (xOrd g) N).2 τ' := by
  intro f
  induction f with
  | zero => intro k τ _ h1 h2; omega
  | succ f ih =>
    intro k τ hk h1 h2 hv hq
    have hN := hw.hN
    show ∃ τ', f_X2_lineUp_7_b (f_X2_lineUp_7 f) (nI k) τ = _ ∧ _
    unfold f_X2_lineUp_7_b f_X2_lineUp_68
    rw [hk.1.n2]
    by_cases e : k = N
    · subst e
      rw [if_pos (Int32.le_refl _)]
      exact ⟨τ, rfl, Fr.rf, hk, hq⟩
    rw [if_neg (fun q => e (by rw [nI_leI (by omega) (by omega)] at q; omega)), s_inOrd hw hk.1 (show k < N by omega)]
    simp only [Option.bind_some, oC_some]
    have hp : xOrd g k < N := hw.olt k (by omega)
    rw [if_pos (hk.1.ok hp), hv _ hp, nI_1]
    have eq1 : qL (xW g N R) (xC g N R vd) (xOrd g) (k + 1) = if xC g N R vd (xOrd g k) then (insO (qL (xW g N R) (xC g N R vd) (xOrd g) k).1 (xOrd g k) (qK (xW g N R) (qL (xW g N R) (xC g N R vd) (xOrd g) k).1 (xOrd g k) (qL (xW g N R) (xC g N R vd) (xOrd g) k).2), (qL (xW g N R) (xC g N R vd) (xOrd g) k).2 + 1) else qL (xW g N R) (xC g N R vd) (xOrd g) k := rfl
    have hlt := qL_lt (w := xW g N R) (c := xC g N R vd) hw.olt k (by omega)
    have hle := qL_le (xW g N R) (xC g N R vd) (xOrd g) k
    generalize hp0 : xOrd g k = p at *
    by_cases c : vd p = -1000000
    case neg =>
      rw [if_neg c]
      rw [if_neg (show ¬ xC g N R vd p = true by unfold xC; simp [c])] at eq1
      have hq' := hq
      rw [← eq1] at hq'
      obtain ⟨τ2, b1, b2, b3, b4⟩ := ih (k + 1) τ hk (by omega) (by omega) hv hq'
      exact ⟨τ2, b1, b2, b3, b4⟩
    rw [if_pos c]
    obtain ⟨τ1, a1, a2, aL, a3⟩ := s_actOf hw hk hp (kn := 0) (by omega)
    rw [show f_X2_actOf (84 + p) 0 τ = _ from a1]
    simp only [Option.bind_some]
    have ea : xAct g (xWt g R (xSet g N R p 0 (g 65 p))) = xA g N R p 0 := rfl
    rw [ea]
    have hv1 : ∀ n, n < N → gI τ1 (84 + n) 7 = vd n := fun n hn => by rw [a2.2.1 _ _ (by unfold cSl; omega)]; exact hv n hn
    have hq1 : qC (xW g N R) (qL (xW g N R) (xC g N R vd) (xOrd g) k).1 (qL (xW g N R) (xC g N R vd) (xOrd g) k).2 τ1 := ⟨by rw [a2.2.1 11 2 (by unfold cSl; omega)]; exact hq.1, fun i hi => by rw [aL, a2.2.2 19 i (by unfold cSl; omega)]; exact hq.2 i hi⟩
    by_cases d : xA g N R p 0 = 1
    case neg =>
      rw [if_neg d]
      rw [if_neg (show ¬ xC g N R vd p = true by unfold xC; simp [d])] at eq1
      rw [← eq1] at hq1
      obtain ⟨τ2, b1, b2, b3, b4⟩ := ih (k + 1) τ1 a3 (by omega) (by omega) hv1 hq1
      exact ⟨τ2, b1, (a2.mono (fun a k q => cSl_cQ q)).tr b2, b3, b4⟩
    rw [if_pos d, if_pos (a3.1.ok hp)]
    rw [if_pos (show xC g N R vd p = true by unfold xC; simp [c, d])] at eq1
    obtain ⟨τ2, c1, c2, cL, c3⟩ := s_scoreOf hw a3 hp (kn := 0) (by omega)
    rw [show f_X2_scoreOf (84 + p) 0 τ1 = _ from c1]
    simp only [Option.bind_some]
    obtain ⟨-, -, -, -, p4, -, -⟩ := a3.1.pay hp
    rw [p4]
    have ew : (g 65 p).toInt64 * (xWt g R (xSet g N R p 0 (g 65 p))).toInt64 = xW g N R p := rfl
    rw [ew]
    have hv2 : ∀ n, n < N → gI τ2 (84 + n) 7 = vd n := fun n hn => by rw [c2.2.1 _ _ (by unfold cSl; omega)]; exact hv1 n hn
    have hq2 : qC (xW g N R) (qL (xW g N R) (xC g N R vd) (xOrd g) k).1 (qL (xW g N R) (xC g N R vd) (xOrd g) k).2 τ2 := ⟨by rw [c2.2.1 11 2 (by unfold cSl; omega)]; exact hq1.1, fun i hi => by rw [cL, c2.2.2 19 i (by unfold cSl; omega)]; exact hq1.2 i hi⟩
    unfold f_X2_queueIn
    generalize hs : qL (xW g N R) (xC g N R vd) (xOrd g) k = s at *
    rw [hq2.1, if_pos (show nI s.2 < 120 by rw [show (120 : Int32) = nI 120 from rfl, nI_ltI (by omega) (by omega)]; omega)]
    obtain ⟨τ3, d1, d2, d3, d4, d5⟩ := s_qIn (w := xW g N R) (q := s.1) hN hp (show s.2 < 120 by omega) hlt s.2 aN τ2 (Nat.le_refl _) (by show s.2 < 1000000; omega) c3.1.gn hq2.1 hq2.2
    rw [d1]
    simp only [Option.bind_some]
    have hK3 : cK g N R b τ3 := by
      refine ⟨c3.1.fr d2 (fun a k q => ?_), c3.2.fr d2 (fun a k q => by omega)⟩
      rcases q with q | q
      · exact cC_row c3.1.hb (by omega)
      · unfold cC
        have := c3.1.hb
        omega
    have hv3 : ∀ n, n < N → gI τ3 (84 + n) 7 = vd n := fun n hn => by rw [d2.2.1 _ _ (by omega)]; exact hv2 n hn
    have hq3 : qC (xW g N R) (insO s.1 p (qK (xW g N R) s.1 p s.2)) (s.2 + 1) τ3 := ⟨by rw [d3, gI_same], fun i hi => d4 i (by omega)⟩
    obtain ⟨τ4, b1, b2, b3, b4⟩ := ih (k + 1) τ3 hK3 (by omega) (by omega) hv3 (by rw [eq1]; exact hq3)
    refine ⟨τ4, b1, ?_, b3, b4⟩
    exact (a2.mono (fun a k q => cSl_cQ q)).tr ((c2.mono (fun a k q => cSl_cQ q)).tr ((d2.mono (fun a k q => by unfold cQ; omega)).tr b2))
theorem s_line (hw : gW g N R) {τ : aSt} (h : cK g N R b τ) (hv : ∀ n, n < N → gI τ (84 + n) 7 = vd n) : ∃ τ', f_X2_lineUp τ = some ((), τ') ∧ Fr cQ τ τ' ∧ cK g N R b τ' ∧ qC (xW g N R) (qL (xW g N R) (xC g N R vd) (xOrd g) N).1 (qL (xW g N R) (xC g N R vd) (xOrd g) N).2 τ' := by
  have hN := hw.hN
  have h1 : cK g N R b (sI τ 11 2 0) := by
    refine ⟨h.1.wr ?_, h.2.fr (C := fun a k => a = 11 ∧ k = 2) (Fr.sI Fr.rf ⟨rfl, rfl⟩) (fun a k q => by omega)⟩
    unfold cC
    have := h.1.hb
    omega
  obtain ⟨τ', a1, a2, a3, a4⟩ := s_lineL (vd := vd) hw aN 0 (sI τ 11 2 0) h1 (by omega) (by show N < 0 + 1000000; omega) (fun n hn => by rw [gI_other (Or.inl (by omega))]; exact hv n hn) ⟨gI_same _ _ _ _, fun i hi => absurd hi (Nat.not_lt_zero _)⟩
  refine ⟨τ', a1, (Fr.sI Fr.rf ?_).tr a2, a3, a4⟩
  unfold cQ
  omega
end QU
