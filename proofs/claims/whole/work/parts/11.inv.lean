/-! ===== the invariant: what ties the class's cells to the reference's ===== -/
/-- sheets -/
def pSheets (σ : aSt) : Prop := ∀ s, s < 8 → (gI σ (41 + 2 * s) 1 = 0 ∧ gI σ 58 s = -1) ∨ (gI σ (41 + 2 * s) 1 = 1 ∧ ∃ l n, l < 3 ∧ n ≤ 120 ∧ gI σ 58 s = nI l ∧ gI σ (41 + 2 * s) 2 = nI l ∧ gI σ 59 s = nI n ∧ gI σ (41 + 2 * s) 3 = nI n ∧ ∀ i, i < 120 → gI σ (42 + 2 * s) i = gI σ 60 (120 * s + i))
/-- before in ORDER, by number -/
def bef (σ : aSt) (p q : Nat) : Prop := (gI σ 62 p).toInt < (gI σ 62 q).toInt ∨ ((gI σ 62 p).toInt = (gI σ 62 q).toInt ∧ (gI σ 61 p).toInt < (gI σ 61 q).toInt)
/-- the place-th payment in ORDER, by number -/
def ord (σ : aSt) (i : Nat) : Nat := (gI σ 68 i).toNatClampNeg
/-- payments: N of them -/
def pPay (σ : aSt) (N : Nat) : Prop := N ≤ 120 ∧ gN σ = 84 + N ∧ gI σ 57 5 = nI N ∧ gI σ 2 2 = nI N ∧
  (∀ n, n < N → (∃ t, t < 1000 ∧ gI σ 61 n = nI t) ∧ (∃ t, t ≤ 100000 ∧ gI σ 62 n = nI t) ∧ (∃ t, t < 20 ∧ gI σ 63 n = nI t) ∧ (∃ t, t < 20 ∧ gI σ 64 n = nI t) ∧ (∃ t, 1 ≤ t ∧ t ≤ 100000 ∧ gI σ 65 n = nI t) ∧ (∃ t, t < 4 ∧ gI σ 66 n = nI t) ∧ (gI σ 67 n = -1000000 ∨ gI σ 67 n = 0 ∨ gI σ 67 n = 1)) ∧
  (∀ n, n < N → gI σ (84 + n) 0 = gI σ 61 n ∧ gI σ (84 + n) 1 = gI σ 62 n ∧ gI σ (84 + n) 2 = gI σ 63 n ∧ gI σ (84 + n) 3 = gI σ 64 n ∧ gI σ (84 + n) 4 = gI σ 65 n ∧ gI σ (84 + n) 5 = gI σ 66 n ∧ gI σ (84 + n) 6 = nI n ∧ gI σ (84 + n) 7 = gI σ 67 n) ∧
  (∀ n m, n < N → m < N → gI σ 61 n = gI σ 61 m → n = m) ∧
  (∀ t, t < 1000 → (gR σ 3 t = none ∧ ∀ n, n < N → gI σ 61 n ≠ nI t) ∨ (∃ n, n < N ∧ gI σ 61 n = nI t ∧ gR σ 3 t = some (84 + n))) ∧
  (∀ i, i < N → ord σ i < N ∧ gI σ 68 i = nI (ord σ i) ∧ gR σ 4 i = some (84 + ord σ i)) ∧
  (∀ i j, i < j → j < N → bef σ (ord σ i) (ord σ j))
def pMark (σ : aSt) : Prop := gI σ 2 3 = gI σ 57 14 ∧ ∃ x, x < 1048576 ∧ gI σ 57 14 = nI x
/-- a book of rules at place b, as the reference has them -/
def pBook (σ : aSt) (b R : Nat) : Prop := R ≤ 12 ∧ gI σ 57 20 = nI R ∧ gI σ b 1 = nI R ∧
  (∃ w d l k, 1 ≤ w ∧ w ≤ 100000 ∧ 1 ≤ d ∧ d ≤ 100000 ∧ l ≤ 20000 ∧ k ≤ 20000 ∧ gI σ 57 15 = nI w ∧ gI σ 57 16 = nI d ∧ gI σ 57 17 = nI l ∧ gI σ 57 18 = nI k ∧ gI σ (b + 1) 0 = nI w ∧ gI σ (b + 1) 1 = nI d ∧ gI σ (b + 1) 2 = nI l ∧ gI σ (b + 1) 3 = nI k) ∧
  (∀ r, r < R → (∃ w, 1 ≤ w ∧ w ≤ 1000 ∧ gI σ 70 r = nI w) ∧ gI σ (b + 2) r = gI σ 70 r ∧ gI σ (b + 3) r = gI σ 71 r ∧ ∃ c, 1 ≤ c ∧ c ≤ 4 ∧ gI σ 71 r = nI c ∧ ∀ n, n < c → (∃ f, f < 10 ∧ gI σ 72 (12 * r + 3 * n) = nI f) ∧ gI σ (b + 4) (4 * r + n) = gI σ 72 (12 * r + 3 * n) ∧ gI σ (b + 5) (4 * r + n) = gI σ 72 (12 * r + 3 * n + 1) ∧ gI σ (b + 6) (4 * r + n) = gI σ 72 (12 * r + 3 * n + 2))
def pRules (σ : aSt) : Prop := ∃ b R, ((b = 12 ∧ gR σ 11 0 = some 12 ∧ gR σ 0 8 = some 34) ∨ (b = 34 ∧ gR σ 11 0 = some 34 ∧ gR σ 0 8 = some 12)) ∧ pBook σ b R
def pTape (σ : aSt) : Prop := ∃ n, n ≤ 600 ∧ gI σ 5 3 = nI n ∧ gI σ 57 30 = nI n ∧ ∀ i, i < n → ∃ c, c < 256 ∧ gI σ 77 i = nI c ∧ gI σ 9 i = (nI c).toInt8.toInt32
def pSmall (σ : aSt) : Prop := gI σ 0 10 = gI σ 57 1 ∧ gI σ 0 9 = gI σ 57 31 ∧ gI σ 26 0 = gI σ 80 0 ∧ gI σ 26 1 = gI σ 80 1 ∧ (∃ c, c ≤ 100000 ∧ gI σ 80 0 = nI c) ∧ (∃ c, c ≤ 100000 ∧ gI σ 80 1 = nI c)
def pTrace (σ : aSt) : Prop := ∃ n, n ≤ 16 ∧ gI σ 32 1 = nI n ∧ gI σ 57 46 = nI n ∧ ∀ i, i < n → gI σ 33 i = gI σ 83 i
/-! cells that each part reads -/
theorem pSheets.fr {C : Nat → Nat → Prop} {σ σ' : aSt} (h : pSheets σ) (f : Fr C σ σ') (hc : ∀ a k, C a k → ¬ (41 ≤ a ∧ a ≤ 60 ∧ a ≠ 57)) : pSheets σ' := by
  have g : ∀ a k, 41 ≤ a → a ≤ 60 → a ≠ 57 → gI σ' a k = gI σ a k := fun a k h1 h2 h3 => f.2.1 a k (fun z => hc a k z ⟨h1, h2, h3⟩)
  intro s hs
  rw [g (41 + 2 * s) 1 (by omega) (by omega) (by omega), g 58 s (by omega) (by omega) (by omega), g (41 + 2 * s) 2 (by omega) (by omega) (by omega), g (41 + 2 * s) 3 (by omega) (by omega) (by omega), g 59 s (by omega) (by omega) (by omega)]
  rcases h s hs with q | ⟨q, l, n, q1, q2, q3, q4, q5, q6, q7⟩
  · exact Or.inl q
  · refine Or.inr ⟨q, l, n, q1, q2, q3, q4, q5, q6, fun i hi => ?_⟩
    rw [g (42 + 2 * s) i (by omega) (by omega) (by omega), g 60 (120 * s + i) (by omega) (by omega) (by omega)]
    exact q7 i hi
/-- which cells the payments' part reads -/
def cPay (a k : Nat) : Prop := (61 ≤ a ∧ a ≤ 68) ∨ 84 ≤ a ∨ a = 3 ∨ a = 4 ∨ (a = 57 ∧ k = 5) ∨ (a = 2 ∧ k = 2)
theorem pPay.fr {C : Nat → Nat → Prop} {σ σ' : aSt} {N : Nat} (h : pPay σ N) (f : Fr C σ σ') (hc : ∀ a k, C a k → ¬ cPay a k) : pPay σ' N := by
  have g : ∀ a k, cPay a k → gI σ' a k = gI σ a k := fun a k h1 => f.2.1 a k (fun z => hc a k z h1)
  have gr : ∀ a k, cPay a k → gR σ' a k = gR σ a k := fun a k h1 => f.2.2 a k (fun z => hc a k z h1)
  obtain ⟨h1, h2, h3, h4, h5, h6, h7, h8, h9, h10⟩ := h
  have e : ∀ a k, 61 ≤ a → a ≤ 68 → gI σ' a k = gI σ a k := fun a k q1 q2 => g a k (Or.inl ⟨q1, q2⟩)
  have eo : ∀ i, ord σ' i = ord σ i := fun i => by unfold ord; rw [e 68 i (by omega) (by omega)]
  refine ⟨h1, by rw [f.1]; exact h2, by rw [g 57 5 (by unfold cPay; omega)]; exact h3, by rw [g 2 2 (by unfold cPay; omega)]; exact h4, fun n hn => ?_, fun n hn => ?_, fun n m hn hm => ?_, fun t ht => ?_, fun i hi => ?_, fun i j hij hj => ?_⟩
  · rw [e 61 n (by omega) (by omega), e 62 n (by omega) (by omega), e 63 n (by omega) (by omega), e 64 n (by omega) (by omega), e 65 n (by omega) (by omega), e 66 n (by omega) (by omega), e 67 n (by omega) (by omega)]
    exact h5 n hn
  · rw [e 61 n (by omega) (by omega), e 62 n (by omega) (by omega), e 63 n (by omega) (by omega), e 64 n (by omega) (by omega), e 65 n (by omega) (by omega), e 66 n (by omega) (by omega), e 67 n (by omega) (by omega)]
    have ep : ∀ k, gI σ' (84 + n) k = gI σ (84 + n) k := fun k => g _ k (by unfold cPay; omega)
    rw [ep, ep, ep, ep, ep, ep, ep, ep]
    exact h6 n hn
  · rw [e 61 n (by omega) (by omega), e 61 m (by omega) (by omega)]
    exact h7 n m hn hm
  · rw [gr 3 t (by unfold cPay; omega)]
    rcases h8 t ht with ⟨q1, q2⟩ | ⟨n, q1, q2, q3⟩
    · exact Or.inl ⟨q1, fun n hn => by rw [e 61 n (by omega) (by omega)]; exact q2 n hn⟩
    · exact Or.inr ⟨n, q1, by rw [e 61 n (by omega) (by omega)]; exact q2, q3⟩
  · rw [eo, e 68 i (by omega) (by omega), gr 4 i (by unfold cPay; omega)]
    exact h9 i hi
  · unfold bef
    rw [eo, eo, e 62 _ (by omega) (by omega), e 62 _ (by omega) (by omega), e 61 _ (by omega) (by omega), e 61 _ (by omega) (by omega)]
    exact h10 i j hij hj
theorem pMark.fr {C : Nat → Nat → Prop} {σ σ' : aSt} (h : pMark σ) (f : Fr C σ σ') (h1 : ¬ C 2 3) (h2 : ¬ C 57 14) : pMark σ' := by
  unfold pMark
  rw [f.2.1 2 3 h1, f.2.1 57 14 h2]
  exact h
/-- which cells a book's part reads -/
def cBook (b a k : Nat) : Prop := (b ≤ a ∧ a ≤ b + 6) ∨ (70 ≤ a ∧ a ≤ 72) ∨ (a = 57 ∧ (15 ≤ k ∧ k ≤ 18 ∨ k = 20))
theorem pBook.fr {C : Nat → Nat → Prop} {σ σ' : aSt} {b R : Nat} (h : pBook σ b R) (f : Fr C σ σ') (hc : ∀ a k, C a k → ¬ cBook b a k) : pBook σ' b R := by
  have g : ∀ a k, cBook b a k → gI σ' a k = gI σ a k := fun a k h1 => f.2.1 a k (fun z => hc a k z h1)
  have eb : ∀ j k, j ≤ 6 → gI σ' (b + j) k = gI σ (b + j) k := fun j k hj => g _ k (Or.inl ⟨by omega, by omega⟩)
  have em : ∀ a k, 70 ≤ a → a ≤ 72 → gI σ' a k = gI σ a k := fun a k q1 q2 => g a k (Or.inr (Or.inl ⟨q1, q2⟩))
  obtain ⟨h1, h2, h3, ⟨w, d, l, k, q1, q2, q3, q4, q5, q6, q7, q8, q9, q10, q11, q12, q13, q14⟩, h5⟩ := h
  refine ⟨h1, by rw [g 57 20 (by unfold cBook; omega)]; exact h2, by have := eb 0 1 (by omega); rw [Nat.add_zero] at this; rw [this]; exact h3, ⟨w, d, l, k, q1, q2, q3, q4, q5, q6, ?_⟩, fun r hr => ?_⟩
  · rw [g 57 15 (by unfold cBook; omega), g 57 16 (by unfold cBook; omega), g 57 17 (by unfold cBook; omega), g 57 18 (by unfold cBook; omega), eb 1 0 (by omega), eb 1 1 (by omega), eb 1 2 (by omega), eb 1 3 (by omega)]
    exact ⟨q7, q8, q9, q10, q11, q12, q13, q14⟩
  · obtain ⟨z1, z2, z3, c, z4, z5, z6, z7⟩ := h5 r hr
    rw [em 70 r (by omega) (by omega), em 71 r (by omega) (by omega), eb 2 r (by omega), eb 3 r (by omega)]
    refine ⟨z1, z2, z3, c, z4, z5, z6, fun n hn => ?_⟩
    rw [em 72 _ (by omega) (by omega), em 72 _ (by omega) (by omega), em 72 _ (by omega) (by omega), eb 4 _ (by omega), eb 5 _ (by omega), eb 6 _ (by omega)]
    exact z7 n hn
theorem pTape.fr {C : Nat → Nat → Prop} {σ σ' : aSt} (h : pTape σ) (f : Fr C σ σ') (h1 : ¬ C 5 3) (h2 : ¬ C 57 30) (h3 : ∀ k, ¬ C 9 k) (h4 : ∀ k, ¬ C 77 k) : pTape σ' := by
  obtain ⟨n, q1, q2, q3, q4⟩ := h
  refine ⟨n, q1, by rw [f.2.1 5 3 h1]; exact q2, by rw [f.2.1 57 30 h2]; exact q3, fun i hi => ?_⟩
  rw [f.2.1 77 i (h4 i), f.2.1 9 i (h3 i)]
  exact q4 i hi
theorem pSmall.fr {C : Nat → Nat → Prop} {σ σ' : aSt} (h : pSmall σ) (f : Fr C σ σ') (h1 : ¬ C 0 10) (h2 : ¬ C 57 1) (h3 : ¬ C 0 9) (h4 : ¬ C 57 31) (h5 : ¬ C 26 0) (h6 : ¬ C 26 1) (h7 : ¬ C 80 0) (h8 : ¬ C 80 1) : pSmall σ' := by
  unfold pSmall
  rw [f.2.1 0 10 h1, f.2.1 57 1 h2, f.2.1 0 9 h3, f.2.1 57 31 h4, f.2.1 26 0 h5, f.2.1 26 1 h6, f.2.1 80 0 h7, f.2.1 80 1 h8]
  exact h
theorem pTrace.fr {C : Nat → Nat → Prop} {σ σ' : aSt} (h : pTrace σ) (f : Fr C σ σ') (h1 : ¬ C 32 1) (h2 : ¬ C 57 46) (h3 : ∀ k, ¬ C 33 k) (h4 : ∀ k, ¬ C 83 k) : pTrace σ' := by
  obtain ⟨n, q1, q2, q3, q4⟩ := h
  refine ⟨n, q1, by rw [f.2.1 32 1 h1]; exact q2, by rw [f.2.1 57 46 h2]; exact q3, fun i hi => ?_⟩
  rw [f.2.1 33 i (h3 i), f.2.1 83 i (h4 i)]
  exact q4 i hi
