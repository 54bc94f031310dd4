def hn5 (a b c d e : Nat) : Nat := a + 16 * (b + 16 * (c + 16 * (d + 16 * e)))
theorem hn_half {a b c d e : Nat} : hn5 a b c d e / 2 = hn5 (a / 2 + 8 * (b % 2)) (b / 2 + 8 * (c % 2)) (c / 2 + 8 * (d % 2)) (d / 2 + 8 * (e % 2)) (e / 2) := by
  unfold hn5
  omega
theorem hn_quart {a b c d e : Nat} : hn5 a b c d e / 4 = hn5 (a / 4 + 4 * (b % 4)) (b / 4 + 4 * (c % 4)) (c / 4 + 4 * (d % 4)) (d / 4 + 4 * (e % 4)) (e / 4) := by
  unfold hn5
  omega
theorem hn_add {a b c d e a' b' c' d' e' : Nat} : hn5 a b c d e + hn5 a' b' c' d' e' = hn5 (a + a') (b + b') (c + c') (d + d') (e + e') := by
  unfold hn5
  omega
theorem hn_sub {a b c d e a' b' c' d' e' : Nat} (h0 : a' ≤ a) (h1 : b' ≤ b) (h2 : c' ≤ c) (h3 : d' ≤ d) (h4 : e' ≤ e) : hn5 a' b' c' d' e' ≤ hn5 a b c d e ∧ hn5 a b c d e - hn5 a' b' c' d' e' = hn5 (a - a') (b - b') (c - c') (d - d') (e - e') := by
  unfold hn5
  omega
theorem hn_16 {a b c d e : Nat} (h0 : a < 16) (h1 : b < 16) (h2 : c < 16) (h3 : d < 16) : hn5 a b c d e / 16 = hn5 b c d e 0 := by
  unfold hn5
  omega
theorem hn_lt {a b c d e : Nat} (h0 : a < 16) (h1 : b < 16) (h2 : c < 16) (h3 : d < 16) (h4 : e < 16) : hn5 a b c d e < 1048576 := by
  unfold hn5
  omega
theorem hn_of {x : Nat} (hx : x < 1048576) : ∃ a b c d e, a < 16 ∧ b < 16 ∧ c < 16 ∧ d < 16 ∧ e < 16 ∧ x = hn5 a b c d e := by
  refine ⟨x % 16, x / 16 % 16, x / 256 % 16, x / 4096 % 16, x / 65536, by omega, by omega, by omega, by omega, by omega, ?_⟩
  unfold hn5
  omega
theorem hn_d0 {x w n : Nat} (h : x = n + 16 * w) : x % 2 = n % 2 ∧ x / 2 % 2 = n / 2 % 2 ∧ x / 4 % 2 = n / 4 % 2 ∧ x / 8 % 2 = n / 8 % 2 := by omega
theorem hn_q {a b c d e : Nat} (h0 : a < 16) (h1 : b < 16) (h2 : c < 16) (h3 : d < 16) : hn5 a b c d e / 16 = b + 16 * (c + 16 * (d + 16 * e)) ∧ hn5 a b c d e / 256 = c + 16 * (d + 16 * e) ∧ hn5 a b c d e / 4096 = d + 16 * e ∧ hn5 a b c d e / 65536 = e := by
  unfold hn5
  omega
def p4 (n : Nat) : Nat := n % 2 + n / 2 % 2 + n / 4 % 2 + n / 8 % 2
theorem hn_pc {a b c d e : Nat} (h0 : a < 16) (h1 : b < 16) (h2 : c < 16) (h3 : d < 16) : pcN (hn5 a b c d e) 20 = p4 a + p4 b + p4 c + p4 d + p4 e := by
  obtain ⟨q1, q2, q3, q4⟩ := hn_q (e := e) h0 h1 h2 h3
  have r0 := hn_d0 (x := hn5 a b c d e) (n := a) rfl
  have r1 := hn_d0 q1
  have r2 := hn_d0 q2
  have r3 := hn_d0 q3
  generalize hn5 a b c d e = x at *
  have dd : ∀ m k, x / m / k = x / (m * k) := fun m k => Nat.div_div_eq_div_mul x m k
  rw [dd, dd, dd] at r1 r2 r3
  have r4 : x / 65536 % 2 = e % 2 ∧ x / 131072 % 2 = e / 2 % 2 ∧ x / 262144 % 2 = e / 4 % 2 ∧ x / 524288 % 2 = e / 8 % 2 := by
    rw [← q4, dd, dd, dd]
    exact ⟨rfl, rfl, rfl, rfl⟩
  simp only [pcN, p4, Nat.reducePow, Nat.reduceMul, Nat.div_one] at *
  rw [r0.1, r0.2.1, r0.2.2.1, r0.2.2.2, r1.1, r1.2.1, r1.2.2.1, r1.2.2.2, r2.1, r2.2.1, r2.2.2.1, r2.2.2.2, r3.1, r3.2.1, r3.2.2.1, r3.2.2.2, r4.1, r4.2.1, r4.2.2.1, r4.2.2.2]
  simp only [Nat.zero_add, Nat.add_assoc]
theorem hn_and {e a0 a1 a2 a3 a4 m M : Nat} (he : e < 16) (hm : m < 16) (h0 : a0 < 16) (h1 : a1 < 16) (h2 : a2 < 16) (h3 : a3 < 16) (h4 : a4 < 16) : hn5 a0 a1 a2 a3 a4 &&& (e + 16 * (m + 16 * (e + 16 * (m + 16 * (e + 16 * M))))) = hn5 (a0 &&& e) (a1 &&& m) (a2 &&& e) (a3 &&& m) (a4 &&& e) := la5 e a0 a1 a2 a3 a4 he m hm h0 h1 h2 h3 h4 M
theorem bc_p4 : ∀ n, n < 16 → ((n - ((n / 2) &&& 5)) &&& 3) + (n - ((n / 2) &&& 5)) / 4 = p4 n ∧ p4 n ≤ 4 ∧ n - ((n / 2) &&& 5) < 16 := by decide
theorem bc_b0 : ∀ n, n < 16 → (n / 4) &&& 3 = n / 4 := by decide
theorem bc_nat {x A B C D E : Nat} (hx : x < 1048576) (hA : A = x - ((x / 2) &&& 1431655765)) (hB : B = (A &&& 858993459) + ((A / 4) &&& 858993459)) (hC : C = (B + B / 16) &&& 252645135) (hD : D = C + C / 256) (hE : E = D + D / 65536) : (x / 2) &&& 1431655765 ≤ x ∧ A < 1048576 ∧ B < 1048576 ∧ C < 1048576 ∧ D < 1048576 ∧ E < 1048576 ∧ E % 64 = pcN x 20 := by
  obtain ⟨n0, n1, n2, n3, n4, h0, h1, h2, h3, h4, ex⟩ := hn_of hx
  have m1 : (1431655765 : Nat) = 5 + 16 * (5 + 16 * (5 + 16 * (5 + 16 * (5 + 16 * 1365)))) := by decide
  have m2 : (858993459 : Nat) = 3 + 16 * (3 + 16 * (3 + 16 * (3 + 16 * (3 + 16 * 819)))) := by decide
  have m3 : (252645135 : Nat) = 15 + 16 * (0 + 16 * (15 + 16 * (0 + 16 * (15 + 16 * 240)))) := by decide
  have z1 : (x / 2) &&& 1431655765 = hn5 ((n0 / 2) &&& 5) ((n1 / 2) &&& 5) ((n2 / 2) &&& 5) ((n3 / 2) &&& 5) ((n4 / 2) &&& 5) := by
    rw [ex, hn_half, m1, hn_and (by decide) (by decide) (by omega) (by omega) (by omega) (by omega) (by omega), (bc_a n0 h0 _ (Nat.mod_lt _ (by decide))).1, (bc_a n1 h1 _ (Nat.mod_lt _ (by decide))).1, (bc_a n2 h2 _ (Nat.mod_lt _ (by decide))).1, (bc_a n3 h3 _ (Nat.mod_lt _ (by decide))).1]
  have s := hn_sub (bc_a n0 h0 0 (by decide)).2 (bc_a n1 h1 0 (by decide)).2 (bc_a n2 h2 0 (by decide)).2 (bc_a n3 h3 0 (by decide)).2 (bc_a n4 h4 0 (by decide)).2
  have hle : (x / 2) &&& 1431655765 ≤ x := by rw [z1, ex]; exact s.1
  rw [z1, ex, s.2] at hA
  obtain ⟨v0, l0, b0⟩ := bc_p4 n0 h0
  obtain ⟨v1, l1, b1⟩ := bc_p4 n1 h1
  obtain ⟨v2, l2, b2⟩ := bc_p4 n2 h2
  obtain ⟨v3, l3, b3⟩ := bc_p4 n3 h3
  obtain ⟨v4, l4, b4⟩ := bc_p4 n4 h4
  have ppc := hn_pc (e := n4) h0 h1 h2 h3
  rw [← ex] at ppc
  clear ex hx z1 s
  generalize n0 - ((n0 / 2) &&& 5) = p0 at *
  generalize n1 - ((n1 / 2) &&& 5) = p1 at *
  generalize n2 - ((n2 / 2) &&& 5) = p2 at *
  generalize n3 - ((n3 / 2) &&& 5) = p3 at *
  generalize n4 - ((n4 / 2) &&& 5) = p4' at *
  have hAl : A < 1048576 := by rw [hA]; exact hn_lt b0 b1 b2 b3 b4
  have z2 : A &&& 858993459 = hn5 (p0 &&& 3) (p1 &&& 3) (p2 &&& 3) (p3 &&& 3) (p4' &&& 3) := by
    rw [hA, m2, hn_and (by decide) (by decide) b0 b1 b2 b3 b4]
  have z3 : (A / 4) &&& 858993459 = hn5 (p0 / 4) (p1 / 4) (p2 / 4) (p3 / 4) (p4' / 4) := by
    rw [hA, hn_quart, m2, hn_and (by decide) (by decide) (by omega) (by omega) (by omega) (by omega) (by omega), bc_b p0 b0 _ (Nat.mod_lt _ (by decide)), bc_b p1 b1 _ (Nat.mod_lt _ (by decide)), bc_b p2 b2 _ (Nat.mod_lt _ (by decide)), bc_b p3 b3 _ (Nat.mod_lt _ (by decide)), bc_b0 p4' b4]
  rw [z2, z3, hn_add, v0, v1, v2, v3, v4] at hB
  clear z2 z3 v0 v1 v2 v3 v4 hA m1 m2
  generalize p4 n0 = q0 at *
  generalize p4 n1 = q1 at *
  generalize p4 n2 = q2 at *
  generalize p4 n3 = q3 at *
  generalize p4 n4 = q4 at *
  have hBl : B < 1048576 := by rw [hB]; exact hn_lt (by omega) (by omega) (by omega) (by omega) (by omega)
  have z5 : B + B / 16 = hn5 (q0 + q1) (q1 + q2) (q2 + q3) (q3 + q4) q4 := by
    rw [hB, hn_16 (by omega) (by omega) (by omega) (by omega), hn_add]
    rfl
  have z6 : C = hn5 (q0 + q1) 0 (q2 + q3) 0 q4 := by
    rw [hC, z5, m3, hn_and (by decide) (by decide) (by omega) (by omega) (by omega) (by omega) (by omega), (bc_d (q0 + q1) (by omega)).1, (bc_d (q1 + q2) (by omega)).2, (bc_d (q2 + q3) (by omega)).1, (bc_d (q3 + q4) (by omega)).2, (bc_d q4 (by omega)).1]
  have z7 : C = (q0 + q1) + 256 * (q2 + q3) + 65536 * q4 := by rw [z6]; unfold hn5; omega
  clear z6 z5 hC hB m3 h0 h1 h2 h3 h4 b0 b1 b2 b3 b4
  have z8 : D = (q0 + q1 + q2 + q3) + 256 * (q2 + q3 + q4) + 65536 * q4 := by omega
  have z9 : E = (q0 + q1 + q2 + q3 + q4) + 256 * (q2 + q3 + q4) + 65536 * q4 := by omega
  refine ⟨hle, hAl, hBl, ?_, ?_, ?_, ?_⟩ <;> clear hle hAl hBl <;> omega
