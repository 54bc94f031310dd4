/-! ===== a payment comes ===== -/
/-- payments as the class has them, as the reference has them, and what is well among them: rows 61 to 67 by g, ORDER by o -/
def pC (σ : aSt) (N : Nat) (g : Nat → Nat → Int32) (o : Nat → Nat) : Prop := gN σ = 84 + N ∧ gI σ 2 2 = nI N ∧ (∀ n, n < N → gI σ (84 + n) 0 = g 61 n ∧ gI σ (84 + n) 1 = g 62 n ∧ gI σ (84 + n) 2 = g 63 n ∧ gI σ (84 + n) 3 = g 64 n ∧ gI σ (84 + n) 4 = g 65 n ∧ gI σ (84 + n) 5 = g 66 n ∧ gI σ (84 + n) 6 = nI n ∧ gI σ (84 + n) 7 = g 67 n) ∧ (∀ t, t < 1000 → (gR σ 3 t = none ∧ ∀ n, n < N → g 61 n ≠ nI t) ∨ (∃ n, n < N ∧ g 61 n = nI t ∧ gR σ 3 t = some (84 + n))) ∧ (∀ i, i < N → gR σ 4 i = some (84 + o i))
def pM (σ : aSt) (N : Nat) (g : Nat → Nat → Int32) (o : Nat → Nat) : Prop := gI σ 57 5 = nI N ∧ (∀ n, n < N → gI σ 61 n = g 61 n ∧ gI σ 62 n = g 62 n ∧ gI σ 63 n = g 63 n ∧ gI σ 64 n = g 64 n ∧ gI σ 65 n = g 65 n ∧ gI σ 66 n = g 66 n ∧ gI σ 67 n = g 67 n) ∧ (∀ i, i < N → gI σ 68 i = nI (o i))
def gBf (g : Nat → Nat → Int32) (p q : Nat) : Prop := (g 62 p).toInt < (g 62 q).toInt ∨ ((g 62 p).toInt = (g 62 q).toInt ∧ (g 61 p).toInt < (g 61 q).toInt)
def dW (N : Nat) (g : Nat → Nat → Int32) (o : Nat → Nat) : Prop := N ≤ 120 ∧ (∀ n, n < N → (∃ t, t < 1000 ∧ g 61 n = nI t) ∧ (∃ t, t ≤ 100000 ∧ g 62 n = nI t) ∧ (∃ t, t < 20 ∧ g 63 n = nI t) ∧ (∃ t, t < 20 ∧ g 64 n = nI t) ∧ (∃ t, 1 ≤ t ∧ t ≤ 100000 ∧ g 65 n = nI t) ∧ (∃ t, t < 4 ∧ g 66 n = nI t) ∧ (g 67 n = -1000000 ∨ g 67 n = 0 ∨ g 67 n = 1)) ∧ (∀ n m, n < N → m < N → g 61 n = g 61 m → n = m) ∧ (∀ i, i < N → o i < N) ∧ (∀ i j, i < j → j < N → gBf g (o i) (o j))
theorem pPay.split {σ : aSt} {N : Nat} (h : pPay σ N) : dW N (gI σ) (ord σ) ∧ pC σ N (gI σ) (ord σ) ∧ pM σ N (gI σ) (ord σ) := by
  obtain ⟨h1, h2, h3, h4, h5, h6, h7, h8, h9, h10⟩ := h
  exact ⟨⟨h1, h5, h7, fun i hi => (h9 i hi).1, h10⟩, ⟨h2, h4, h6, h8, fun i hi => (h9 i hi).2.2⟩, ⟨h3, fun _ _ => ⟨rfl, rfl, rfl, rfl, rfl, rfl, rfl⟩, fun i hi => (h9 i hi).2.1⟩⟩
theorem pPay.join {σ : aSt} {N : Nat} {g : Nat → Nat → Int32} {o : Nat → Nat} (hd : dW N g o) (hc : pC σ N g o) (hm : pM σ N g o) : pPay σ N := by
  obtain ⟨d1, d2, d3, d4, d5⟩ := hd
  obtain ⟨c1, c2, c3, c4, c5⟩ := hc
  obtain ⟨m1, m2, m3⟩ := hm
  have eo : ∀ i, i < N → ord σ i = o i := fun i hi => by
    unfold ord
    rw [m3 i hi]
    exact ix_cl (by have := d4 i hi; omega)
  refine ⟨d1, c1, m1, c2, fun n hn => ?_, fun n hn => ?_, fun n m hn hm e => ?_, fun t ht => ?_, fun i hi => ?_, fun i j hij hj => ?_⟩
  · obtain ⟨q1, q2, q3, q4, q5, q6, q7⟩ := m2 n hn
    rw [q1, q2, q3, q4, q5, q6, q7]
    exact d2 n hn
  · obtain ⟨q1, q2, q3, q4, q5, q6, q7⟩ := m2 n hn
    rw [q1, q2, q3, q4, q5, q6, q7]
    exact c3 n hn
  · rw [(m2 n hn).1, (m2 m hm).1] at e
    exact d3 n m hn hm e
  · rcases c4 t ht with ⟨q1, q2⟩ | ⟨n, q1, q2, q3⟩
    · exact Or.inl ⟨q1, fun n hn => by rw [(m2 n hn).1]; exact q2 n hn⟩
    · exact Or.inr ⟨n, q1, by rw [(m2 n q1).1]; exact q2, q3⟩
  · rw [eo i hi]
    exact ⟨d4 i hi, m3 i hi, c5 i hi⟩
  · rw [eo i (by omega), eo j hj]
    have q := d5 i j hij hj
    unfold gBf at q
    unfold bef
    obtain ⟨i1, i2, -⟩ := m2 _ (d4 i (by omega))
    obtain ⟨j1, j2, -⟩ := m2 _ (d4 j hj)
    rw [i1, i2, j1, j2]
    exact q
/-- the rows with one payment more -/
def gAdd (g : Nat → Nat → Int32) (N : Nat) (p1 p2 p3 p4 p5 p6 : Int32) (a n : Nat) : Int32 := if n = N then (if a = 61 then p1 else if a = 62 then p2 else if a = 63 then p3 else if a = 64 then p4 else if a = 65 then p5 else if a = 66 then p6 else -1000000) else g a n
/-- where it goes in ORDER -/
def bBf (g : Nat → Nat → Int32) (p q : Nat) : Bool := decide ((g 62 p).toInt < (g 62 q).toInt) || (decide ((g 62 p).toInt = (g 62 q).toInt) && decide ((g 61 p).toInt < (g 61 q).toInt))
theorem bBf_iff {g : Nat → Nat → Int32} {p q : Nat} : bBf g p q = true ↔ gBf g p q := by
  unfold bBf gBf
  simp
def insK (g : Nat → Nat → Int32) (o : Nat → Nat) (N : Nat) : Nat → Nat
  | 0 => 0
  | k + 1 => if bBf g N (o k) then insK g o N k else k + 1
def insO (o : Nat → Nat) (N K : Nat) (i : Nat) : Nat := if i < K then o i else if i = K then N else o (i - 1)
theorem insK_le (g : Nat → Nat → Int32) (o : Nat → Nat) (N : Nat) : ∀ k, insK g o N k ≤ k
  | 0 => Nat.le_refl _
  | k + 1 => by
    unfold insK
    by_cases h : bBf g N (o k) = true
    · rw [if_pos h]
      exact Nat.le_succ_of_le (insK_le g o N k)
    · rw [if_neg h]
      exact Nat.le_refl _
theorem insK_hi (g : Nat → Nat → Int32) (o : Nat → Nat) (N : Nat) : ∀ k i, insK g o N k ≤ i → i < k → gBf g N (o i)
  | 0, i, _, h => absurd h (Nat.not_lt_zero _)
  | k + 1, i, h1, h2 => by
    unfold insK at h1
    by_cases h : bBf g N (o k) = true
    · rw [if_pos h] at h1
      by_cases hi : i = k
      · rw [hi]; exact bBf_iff.mp h
      · exact insK_hi g o N k i h1 (by omega)
    · rw [if_neg h] at h1
      omega
theorem insK_lo (g : Nat → Nat → Int32) (o : Nat → Nat) (N : Nat) : ∀ k, 0 < insK g o N k → ¬ gBf g N (o (insK g o N k - 1))
  | 0, h => absurd h (Nat.not_lt_zero _)
  | k + 1, h => by
    unfold insK at h ⊢
    by_cases hb : bBf g N (o k) = true
    · rw [if_pos hb] at h ⊢
      exact insK_lo g o N k h
    · rw [if_neg hb]
      exact fun z => hb (bBf_iff.mpr z)
theorem gAdd_old {g : Nat → Nat → Int32} {N a n : Nat} {p1 p2 p3 p4 p5 p6 : Int32} (h : n ≠ N) : gAdd g N p1 p2 p3 p4 p5 p6 a n = g a n := if_neg h
/-- one more is well, too -/
theorem dW.add {N : Nat} {g : Nat → Nat → Int32} {o : Nat → Nat} (h : dW N g o) (hN : N < 120) {t1 t2 t3 t4 t5 t6 : Nat} (k1 : t1 < 1000) (k2 : t2 ≤ 100000) (k3 : t3 < 20) (k4 : t4 < 20) (k5 : 1 ≤ t5 ∧ t5 ≤ 100000) (k6 : t6 < 4) (hf : ∀ n, n < N → g 61 n ≠ nI t1) : dW (N + 1) (gAdd g N (nI t1) (nI t2) (nI t3) (nI t4) (nI t5) (nI t6)) (insO o N (insK (gAdd g N (nI t1) (nI t2) (nI t3) (nI t4) (nI t5) (nI t6)) o N N)) := by
  obtain ⟨d1, d2, d3, d4, d5⟩ := h
  generalize hg : gAdd g N (nI t1) (nI t2) (nI t3) (nI t4) (nI t5) (nI t6) = g'
  have old : ∀ a n, n ≠ N → g' a n = g a n := fun a n q => by rw [← hg]; exact gAdd_old q
  have n61 : g' 61 N = nI t1 := by rw [← hg]; simp [gAdd]
  have n62 : g' 62 N = nI t2 := by rw [← hg]; simp [gAdd]
  have n63 : g' 63 N = nI t3 := by rw [← hg]; simp [gAdd]
  have n64 : g' 64 N = nI t4 := by rw [← hg]; simp [gAdd]
  have n65 : g' 65 N = nI t5 := by rw [← hg]; simp [gAdd]
  have n66 : g' 66 N = nI t6 := by rw [← hg]; simp [gAdd]
  have n67 : g' 67 N = -1000000 := by rw [← hg]; simp [gAdd]
  have hK := insK_le g' o N N
  have hlo := insK_lo g' o N N
  have hhi := insK_hi g' o N N
  generalize insK g' o N N = K at hK hlo hhi
  have bo : ∀ p q, p < N → q < N → (gBf g' p q ↔ gBf g p q) := fun p q hp hq => by
    unfold gBf
    rw [old 62 p (by omega), old 62 q (by omega), old 61 p (by omega), old 61 q (by omega)]
  refine ⟨by omega, fun n hn => ?_, fun n m hn hm e => ?_, fun i hi => ?_, fun i j hij hj => ?_⟩
  · by_cases hnN : n = N
    · subst hnN
      rw [n61, n62, n63, n64, n65, n66, n67]
      exact ⟨⟨t1, k1, rfl⟩, ⟨t2, k2, rfl⟩, ⟨t3, k3, rfl⟩, ⟨t4, k4, rfl⟩, ⟨t5, k5.1, k5.2, rfl⟩, ⟨t6, k6, rfl⟩, Or.inl rfl⟩
    · rw [old _ _ hnN, old _ _ hnN, old _ _ hnN, old _ _ hnN, old _ _ hnN, old _ _ hnN, old _ _ hnN]
      exact d2 n (by omega)
  · by_cases h1 : n = N
    · by_cases h2 : m = N
      · omega
      · rw [h1, n61, old _ _ h2] at e
        exact absurd e.symm (hf m (by omega))
    · by_cases h2 : m = N
      · rw [h2, n61, old _ _ h1] at e
        exact absurd e (hf n (by omega))
      · rw [old _ _ h1, old _ _ h2] at e
        exact d3 n m (by omega) (by omega) e
  · unfold insO
    by_cases h1 : i < K
    · rw [if_pos h1]; have := d4 i (by omega); omega
    · rw [if_neg h1]
      by_cases h2 : i = K
      · rw [if_pos h2]; omega
      · rw [if_neg h2]; have := d4 (i - 1) (by omega); omega
  · unfold insO
    by_cases j1 : j < K
    · rw [if_pos (show i < K by omega), if_pos j1, bo _ _ (d4 _ (by omega)) (d4 _ (by omega))]
      exact d5 i j hij (by omega)
    · rw [if_neg j1]
      by_cases j2 : j = K
      · rw [if_pos j2, if_pos (show i < K by omega)]
        -- what stands before the place comes before the new one
        have hz := hlo (by omega)
        have l1 : ¬ gBf g' N (o i) := by
          by_cases hi : i = K - 1
          · rw [hi]; exact hz
          · intro q
            have q2 : gBf g' (o i) (o (K - 1)) := (bo _ _ (d4 _ (by omega)) (d4 _ (by omega))).mpr (d5 i (K - 1) (by omega) (by omega))
            apply hz
            unfold gBf at q q2 ⊢
            omega
        have hne : (g' 61 N).toInt ≠ (g' 61 (o i)).toInt := by
          rw [n61, old _ _ (by have := d4 i (by omega); omega)]
          intro z
          exact hf (o i) (d4 i (by omega)) (((pi_eq _ _).mpr z).symm)
        unfold gBf at l1 ⊢
        omega
      · rw [if_neg j2]
        by_cases i1 : i < K
        · rw [if_pos i1, bo _ _ (d4 _ (by omega)) (d4 _ (by omega))]
          exact d5 i (j - 1) (by omega) (by omega)
        · rw [if_neg i1]
          by_cases i2 : i = K
          · rw [if_pos i2]
            exact hhi (j - 1) (by omega) (by omega)
          · rw [if_neg i2, bo _ _ (d4 _ (by omega)) (d4 _ (by omega))]
            exact d5 (i - 1) (j - 1) (by omega) (by omega)
