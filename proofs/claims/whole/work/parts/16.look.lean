/-! ===== looking payments up; small calls ===== -/
theorem s_numNone {N : Nat} {t : Int32} (hN : N ≤ 120) {σ : aSt} (h5 : gI σ 57 5 = nI N) (v : Int32) : ∀ (f k : Nat), k ≤ N → N < k + f → (∀ p, k ≤ p → p < N → gI σ 61 p ≠ t) → f_X12_numberOf_5 f t v (nI k) σ = some (v, σ) := by
  intro f
  induction f with
  | zero => intro k h1 h2; omega
  | succ f ih =>
    intro k h1 h2 h3
    show f_X12_numberOf_5_b (f_X12_numberOf_5 f) t v (nI k) σ = _
    unfold f_X12_numberOf_5_b f_X12_numberOf_28
    rw [h5]
    by_cases hk : k = N
    · subst hk
      rw [if_pos (Int32.le_refl _)]
    · rw [if_neg (fun q => hk (by rw [nI_leI (by omega) (by omega)] at q; omega)), if_pos (ix_in (by omega) (by omega)), ix_cl (by omega), if_neg (h3 k (by omega) (by omega)), nI_1]
      exact ih (k + 1) (by omega) (by omega) (fun p q1 q2 => h3 p (by omega) q2)
theorem s_numSome {N m : Nat} {t : Int32} (hN : N ≤ 120) {σ : aSt} (h5 : gI σ 57 5 = nI N) (hm : m < N) (e : gI σ 61 m = t) (hu : ∀ p, m < p → p < N → gI σ 61 p ≠ t) : ∀ (f k : Nat) (v : Int32), k ≤ m → N < k + f → f_X12_numberOf_5 f t v (nI k) σ = some (nI m, σ) := by
  intro f
  induction f with
  | zero => intro k v h1 h2; omega
  | succ f ih =>
    intro k v h1 h2
    show f_X12_numberOf_5_b (f_X12_numberOf_5 f) t v (nI k) σ = _
    unfold f_X12_numberOf_5_b f_X12_numberOf_28
    rw [h5, if_neg (fun q => by rw [nI_leI (by omega) (by omega)] at q; omega), if_pos (ix_in (by omega) (by omega)), ix_cl (by omega), nI_1]
    by_cases hk : k = m
    · subst hk
      rw [if_pos e]
      exact s_numNone hN h5 (nI k) f (k + 1) (by omega) (by omega) (fun p q1 q2 => hu p (by omega) q2)
    · by_cases hz : gI σ 61 k = t
      · rw [if_pos hz]
        exact ih (k + 1) (nI k) (by omega) (by omega)
      · rw [if_neg hz]
        exact ih (k + 1) v (by omega) (by omega)
theorem s_find0 {σ : aSt} (t : Int32) : f_X3_find t σ = if 0 ≤ t ∧ t ≤ 999 then some (gR σ 3 t.toNatClampNeg, σ) else some (none, σ) := by
  unfold f_X3_find f_X3_find_21
  rw [s_within]
  simp only [Option.bind_some, bI_0, decide_eq_false_iff_not]
  by_cases c : 0 ≤ t ∧ t ≤ 999
  · rw [if_neg (not_not_intro c), if_pos c]
    obtain ⟨n, hn, rfl⟩ := ix_rng (N := 1000) rfl rfl c.1 c.2
    rw [if_pos (ix_in hn (by omega))]
  · rw [if_pos c, if_neg c]
/-- a tag is unknown to both, or known to both -/
theorem s_look {σ : aSt} {N : Nat} (h : pPay σ N) (t : Int32) : (f_X3_find t σ = some (none, σ) ∧ ∀ τ : aSt, gI τ 57 5 = nI N → (∀ n, n < N → gI τ 61 n = gI σ 61 n) → f_X12_numberOf t τ = some (-1000000, τ)) ∨ (∃ n, n < N ∧ gI σ 61 n = t ∧ f_X3_find t σ = some (some (84 + n), σ) ∧ ∀ τ : aSt, gI τ 57 5 = nI N → (∀ n, n < N → gI τ 61 n = gI σ 61 n) → f_X12_numberOf t τ = some (nI n, τ)) := by
  obtain ⟨h1, h2, h3, h4, h5, h6, h7, h8, h9, h10⟩ := h
  have none_ok : (∀ n, n < N → gI σ 61 n ≠ t) → ∀ τ : aSt, gI τ 57 5 = nI N → (∀ n, n < N → gI τ 61 n = gI σ 61 n) → f_X12_numberOf t τ = some (-1000000, τ) := by
    intro q τ e1 e2
    exact s_numNone h1 e1 (-1000000) aN 0 (by omega) (by show N < 0 + 1000000; omega) (fun p _ hp => by rw [e2 p hp]; exact q p hp)
  rw [s_find0]
  by_cases c : 0 ≤ t ∧ t ≤ 999
  · obtain ⟨k, hk, rfl⟩ := ix_rng (N := 1000) rfl rfl c.1 c.2
    rw [if_pos c, ix_cl (by omega)]
    rcases h8 k hk with ⟨q1, q2⟩ | ⟨n, q1, q2, q3⟩
    · exact Or.inl ⟨by rw [q1], none_ok q2⟩
    · refine Or.inr ⟨n, q1, q2, by rw [q3], fun τ e1 e2 => ?_⟩
      exact s_numSome h1 e1 q1 (by rw [e2 n q1, q2]) (fun p hp hp2 => by rw [e2 p hp2]; intro z; exact absurd (h7 p n hp2 q1 (z.trans q2.symm)) (by omega)) aN 0 _ (by omega) (by show N < 0 + 1000000; omega)
  · rw [if_neg c]
    refine Or.inl ⟨rfl, none_ok (fun n hn z => ?_)⟩
    obtain ⟨⟨k, hk, hk2⟩, -⟩ := h5 n hn
    apply c
    rw [← z, hk2]
    rw [pi_le, pi_le, pi_nI (by omega)]
    have e0 : (0 : Int32).toInt = 0 := rfl
    have e9 : (999 : Int32).toInt = 999 := rfl
    omega
theorem Inv.pay {σ : aSt} (h : Inv σ) : ∃ N, pPay σ N := by
  obtain ⟨-, -, -, -, -, N, b, R, -, h7, -, -⟩ := h
  exact ⟨N, h7⟩
/-- the model's cell 'thrown' hides nothing -/
theorem thr_o {σ : aSt} {a k : Nat} (v : Int32) (h : a ≠ 57 ∨ k ≠ 0) : gI (sI σ 57 0 v) a k = gI σ a k := gI_other h
theorem aP_ok {σ : aSt} {N n : Nat} (h : pPay σ N) (hn : n < N) : aSh (84 + n) = 4 ∧ 84 + n < gN σ := ⟨aSh_pay (by omega), by rw [h.2.1]; omega⟩
theorem op_fault {σ : aSt} (h : Inv σ) : Op f_X11_fault f_X12_fault σ := by
  refine ⟨gI σ 0 9, σ, sI σ 57 0 0, rfl, ?_, h.thr 0⟩
  unfold f_X12_fault
  rw [thr_o 0 (Or.inr (by omega)), ← h.2.2.2.1.2.1]
theorem op_status {σ : aSt} (h : Inv σ) : Op f_X11_status f_X12_status σ := by
  refine ⟨gI σ 0 10, σ, sI σ 57 0 0, rfl, ?_, h.thr 0⟩
  unfold f_X12_status
  rw [thr_o 0 (Or.inr (by omega)), ← h.2.2.2.1.1]
theorem op_order {σ : aSt} (h : Inv σ) (p1 : Int32) : Op (f_X11_order p1) (f_X12_order p1) σ := by
  obtain ⟨N, hp⟩ := h.pay
  have hp0 := hp
  obtain ⟨h1, h2, h3, h4, h5, h6, h7, h8, h9, h10⟩ := hp
  have en : (nI N).toInt = N := pi_nI (by omega)
  have e1 : (nI N - 1).toInt = N - 1 := by
    have : (1 : Int32).toInt = 1 := rfl
    rw [pi_sub, en] <;> omega
  have e0 : (0 : Int32).toInt = 0 := rfl
  have xs : f_X3_inOrder p1 σ = if 0 ≤ p1 ∧ p1 ≤ nI N - 1 then (if inB p1 120 then some (gR σ 4 p1.toNatClampNeg, σ) else none) else some (none, σ) := by
    unfold f_X3_inOrder f_X3_inOrder_24
    rw [h4, s_within]
    simp only [Option.bind_some, bI_0, decide_eq_false_iff_not]
    by_cases c : 0 ≤ p1 ∧ p1 ≤ nI N - 1
    · rw [if_neg (not_not_intro c), if_pos c]
    · rw [if_pos c, if_neg c]
  have ms : f_X12_order p1 σ = if 0 ≤ p1 ∧ p1 ≤ nI N - 1 then (if inB p1 120 then (if inB (gI (sI σ 57 0 0) 68 p1.toNatClampNeg) 120 then some (gI (sI σ 57 0 0) 61 (gI (sI σ 57 0 0) 68 p1.toNatClampNeg).toNatClampNeg, sI σ 57 0 0) else none) else none) else some (-1000000, sI σ 57 0 0) := by
    unfold f_X12_order f_X12_order_37
    rw [thr_o 0 (Or.inr (by omega)), h3, s_in 0 (nI N - 1).toInt64 0 (nI N - 1) rfl rfl]
    simp only [Option.bind_some, bI_0, decide_eq_false_iff_not]
    by_cases c : 0 ≤ p1 ∧ p1 ≤ nI N - 1
    · rw [if_neg (not_not_intro c), if_pos c]
    · rw [if_pos c, if_neg c]
  by_cases c : 0 ≤ p1 ∧ p1 ≤ nI N - 1
  · have c' := c
    rw [pi_le, pi_le, e1, e0] at c'
    obtain ⟨i, hi, rfl⟩ : ∃ i, i < N ∧ p1 = nI i := ⟨p1.toInt.toNat, by omega, pi_of c'.1⟩
    obtain ⟨o1, o2, o3⟩ := h9 i hi
    have cl : (nI i).toNatClampNeg = i := ix_cl (by omega)
    have ib : inB (nI i) 120 := ix_in (by omega) (by omega)
    rw [if_pos c, if_pos ib, cl, o3] at xs
    refine ⟨gI σ 61 (ord σ i), σ, sI σ 57 0 0, ?_, ?_, h.thr 0⟩
    · unfold f_X11_order f_X11_order_22
      rw [xs]
      simp only [Option.bind_some, oC_some]
      rw [if_pos (aP_ok hp0 o1), (h6 _ o1).1]
    · rw [ms, if_pos c, if_pos ib]
      rw [cl, thr_o 0 (Or.inl (by omega)), o2, if_pos (ix_in (by omega) (by omega)), ix_cl (by omega), thr_o 0 (Or.inl (by omega))]
  · rw [if_neg c] at xs
    refine ⟨-1000000, σ, sI σ 57 0 0, ?_, by rw [ms, if_neg c], h.thr 0⟩
    unfold f_X11_order f_X11_order_22
    rw [xs]
    rfl
theorem op_told {σ : aSt} (h : Inv σ) (p1 p2 : Int32) : Op (f_X11_told p1 p2) (f_X12_told p1 p2) σ := by
  obtain ⟨N, hp⟩ := h.pay
  have e5 : gI (sI σ 57 0 0) 57 5 = nI N := by rw [thr_o 0 (Or.inr (by omega)), hp.2.2.1]
  have e61 : ∀ n, n < N → gI (sI σ 57 0 0) 61 n = gI σ 61 n := fun n _ => thr_o 0 (Or.inl (by omega))
  rcases s_look hp p1 with ⟨x1, x2⟩ | ⟨n, hn, x0, x1, x2⟩
  · refine ⟨-1000001, σ, sI σ 57 0 0, ?_, ?_, h.thr 0⟩
    · unfold f_X11_told
      rw [x1]
      rfl
    · unfold f_X12_told
      rw [x2 _ e5 e61]
      rfl
  · have ok := aP_ok hp hn
    obtain ⟨f0, f1, f2, f3, f4, f5, f6, f7⟩ := hp.2.2.2.2.2.1 n hn
    have hN := hp.1
    have ib : inB (nI n) 120 := ix_in (by omega) (by omega)
    have cl : (nI n).toNatClampNeg = n := ix_cl (by omega)
    have hne : ¬ nI n = -1000000 := fun z => by
      have := congrArg Int32.toInt z
      rw [pi_nI (by omega)] at this
      have e : (-1000000 : Int32).toInt = -1000000 := rfl
      omega
    have key : ∀ v : Int32, f_X11_told p1 p2 σ = some (v, σ) → f_X12_told p1 p2 σ = some (v, sI σ 57 0 0) → Op (f_X11_told p1 p2) (f_X12_told p1 p2) σ := fun v a b => ⟨v, σ, sI σ 57 0 0, a, b, h.thr 0⟩
    have xs : f_X11_told p1 p2 σ = if p2 = 0 then some (nI n, σ) else if p2 = 1 then some (gI σ 62 n, σ) else if p2 = 2 then some (gI σ 63 n, σ) else if p2 = 3 then some (gI σ 64 n, σ) else if p2 = 4 then some (gI σ 65 n, σ) else if p2 = 5 then some (gI σ 66 n, σ) else if p2 = 6 then some (gI σ 67 n, σ) else some (-1000001, σ) := by
      unfold f_X11_told
      rw [x1]
      simp only [Option.bind_some, oC_some, if_pos ok, f6, f1, f2, f3, f4, f5, f7]
    have tv : ∀ a, a ≠ 57 → gI (sI σ 57 0 0) a n = gI σ a n := fun a q => thr_o 0 (Or.inl q)
    have ms : f_X12_told p1 p2 σ = if 0 ≤ p2 ∧ p2 ≤ 6 then (if p2 = 0 then some (nI n, sI σ 57 0 0) else if p2 = 1 then some (gI σ 62 n, sI σ 57 0 0) else if p2 = 2 then some (gI σ 63 n, sI σ 57 0 0) else if p2 = 3 then some (gI σ 64 n, sI σ 57 0 0) else if p2 = 4 then some (gI σ 65 n, sI σ 57 0 0) else if p2 = 5 then some (gI σ 66 n, sI σ 57 0 0) else some (gI σ 67 n, sI σ 57 0 0)) else some (-1000001, sI σ 57 0 0) := by
      unfold f_X12_told f_X12_told_29 f_X12_told_116
      rw [x2 _ e5 e61]
      simp only [Option.bind_some]
      rw [if_neg hne, s_in 0 6 0 6 rfl rfl]
      simp only [Option.bind_some, bI_0, decide_eq_false_iff_not]
      by_cases c : 0 ≤ p2 ∧ p2 ≤ 6
      · rw [if_neg (not_not_intro c), if_pos c]
        simp only [if_pos ib]
        rw [cl, tv _ (by omega), tv _ (by omega), tv _ (by omega), tv _ (by omega), tv _ (by omega), tv _ (by omega)]
      · rw [if_pos c, if_neg c]
    by_cases c : 0 ≤ p2 ∧ p2 ≤ 6
    · rw [if_pos c] at ms
      by_cases d0 : p2 = 0
      · rw [if_pos d0] at xs ms; exact key _ xs ms
      rw [if_neg d0] at xs ms
      by_cases d1 : p2 = 1
      · rw [if_pos d1] at xs ms; exact key _ xs ms
      rw [if_neg d1] at xs ms
      by_cases d2 : p2 = 2
      · rw [if_pos d2] at xs ms; exact key _ xs ms
      rw [if_neg d2] at xs ms
      by_cases d3 : p2 = 3
      · rw [if_pos d3] at xs ms; exact key _ xs ms
      rw [if_neg d3] at xs ms
      by_cases d4 : p2 = 4
      · rw [if_pos d4] at xs ms; exact key _ xs ms
      rw [if_neg d4] at xs ms
      by_cases d5 : p2 = 5
      · rw [if_pos d5] at xs ms; exact key _ xs ms
      rw [if_neg d5] at xs ms
      have d6 : p2 = 6 := by
        rw [pi_le, pi_le] at c
        rw [pi_eq] at d0 d1 d2 d3 d4 d5 ⊢
        have e0 : (0 : Int32).toInt = 0 := rfl
        have e1 : (1 : Int32).toInt = 1 := rfl
        have e2 : (2 : Int32).toInt = 2 := rfl
        have e3 : (3 : Int32).toInt = 3 := rfl
        have e4 : (4 : Int32).toInt = 4 := rfl
        have e5 : (5 : Int32).toInt = 5 := rfl
        have e6 : (6 : Int32).toInt = 6 := rfl
        omega
      rw [if_pos d6] at xs
      exact key _ xs ms
    · rw [if_neg c] at ms
      have z : ∀ k : Int32, (0 ≤ k ∧ k ≤ 6) → ¬ p2 = k := fun k hk q => c (q ▸ hk)
      rw [if_neg (z 0 (by decide)), if_neg (z 1 (by decide)), if_neg (z 2 (by decide)), if_neg (z 3 (by decide)), if_neg (z 4 (by decide)), if_neg (z 5 (by decide)), if_neg (z 6 (by decide))] at xs
      exact key _ xs ms
