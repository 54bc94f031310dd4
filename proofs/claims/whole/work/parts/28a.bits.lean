/-! ===== how many bits: bitCount is the sum of the bits ===== -/
theorem la16 (y m d e : Nat) (hd : d < 16) (he : e < 16) : (d + 16 * y) &&& (e + 16 * m) = (d &&& e) + 16 * (y &&& m) := by
  have hde : d &&& e < 16 := Nat.lt_of_le_of_lt Nat.and_le_left hd
  apply Nat.eq_of_testBit_eq
  intro i
  rw [Nat.testBit_and, Nat.add_comm d, Nat.add_comm e, Nat.add_comm (d &&& e), show (16 : Nat) = 2 ^ 4 from rfl, Nat.testBit_two_pow_mul_add _ hd, Nat.testBit_two_pow_mul_add _ he, Nat.testBit_two_pow_mul_add _ hde]
  by_cases h : i < 4
  · rw [if_pos h, if_pos h, if_pos h, Nat.testBit_and]
  · rw [if_neg h, if_neg h, if_neg h, Nat.testBit_and]
theorem la5 (e a0 a1 a2 a3 a4 : Nat) (he : e < 16) (m : Nat) (hm : m < 16) (h0 : a0 < 16) (h1 : a1 < 16) (h2 : a2 < 16) (h3 : a3 < 16) (h4 : a4 < 16) (M : Nat) : (a0 + 16 * (a1 + 16 * (a2 + 16 * (a3 + 16 * a4)))) &&& (e + 16 * (m + 16 * (e + 16 * (m + 16 * (e + 16 * M))))) = (a0 &&& e) + 16 * ((a1 &&& m) + 16 * ((a2 &&& e) + 16 * ((a3 &&& m) + 16 * (a4 &&& e)))) := by
  rw [la16 _ _ _ _ h0 he, la16 _ _ _ _ h1 hm, la16 _ _ _ _ h2 he, la16 _ _ _ _ h3 hm]
  have := la16 0 M a4 e h4 he
  simp only [Nat.mul_zero, Nat.add_zero, Nat.zero_and] at this
  rw [this]
def pcN (x : Nat) : Nat → Nat
  | 0 => 0
  | n + 1 => pcN x n + x / 2 ^ n % 2
theorem bc_a : ∀ n, n < 16 → ∀ b, b < 2 → (n / 2 + 8 * b) &&& 5 = (n / 2) &&& 5 ∧ (n / 2) &&& 5 ≤ n := by decide
theorem bc_b : ∀ n, n < 16 → ∀ b, b < 4 → (n / 4 + 4 * b) &&& 3 = n / 4 := by decide
theorem bc_c : ∀ n, n < 16 → ((n - ((n / 2) &&& 5)) &&& 3) + (n - ((n / 2) &&& 5)) / 4 = n % 2 + n / 2 % 2 + n / 4 % 2 + n / 8 % 2 := by decide
theorem bc_d : ∀ n, n < 16 → n &&& 15 = n ∧ n &&& 0 = 0 := by decide
