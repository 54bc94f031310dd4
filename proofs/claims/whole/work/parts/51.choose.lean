/-! ===== drift: ways to choose, by products and by the table ===== -/
def wL (n : Nat) : Int64 := Int64.ofNat n
theorem wL_add (a b : Nat) : wL a + wL b = wL (a + b) := (Int64.ofNat_add a b).symm
theorem wL_mul (a b : Nat) : wL a * wL b = wL (a * b) := (Int64.ofNat_mul a b).symm
theorem wL_div {a b : Nat} (ha : a < 9223372036854775808) (hb : b < 9223372036854775808) : wL a / wL b = wL (a / b) := (Int64.ofNat_div ha hb).symm
theorem wL_toInt {a : Nat} (ha : a < 9223372036854775808) : (wL a).toInt = a := Int64.toInt_ofNat_of_lt ha
theorem wL_nI {k : Nat} (h : k < 2147483648) : (nI k).toInt64 = wL k := by
  rw [pl_eq, pi_wide, pi_nI h, wL_toInt (by omega)]
def cN : Nat → Nat → Nat
  | _, 0 => 1
  | 0, _ + 1 => 0
  | n + 1, k + 1 => cN n k + cN n (k + 1)
theorem cN_0 (n : Nat) : cN n 0 = 1 := by cases n <;> rfl
theorem cN_s (n k : Nat) : cN (n + 1) (k + 1) = cN n k + cN n (k + 1) := rfl
theorem cN_lt : ∀ n k, n < k → cN n k = 0
  | 0, 0, h => absurd h (Nat.lt_irrefl _)
  | n + 1, 0, h => absurd h (Nat.not_lt_zero _)
  | 0, k + 1, _ => rfl
  | n + 1, k + 1, h => by rw [cN_s, cN_lt n k (by omega), cN_lt n (k + 1) (by omega)]
theorem cN_self : ∀ n, cN n n = 1
  | 0 => rfl
  | n + 1 => by rw [cN_s, cN_self n, cN_lt n (n + 1) (by omega)]
theorem cN_le : ∀ n k, cN n k ≤ 2 ^ n
  | n, 0 => by rw [cN_0]; exact Nat.one_le_two_pow
  | 0, k + 1 => Nat.zero_le _
  | n + 1, k + 1 => by
    have h1 := cN_le n k
    have h2 := cN_le n (k + 1)
    rw [cN_s, Nat.pow_succ]
    omega
theorem cN_mul : ∀ n k, (k + 1) * cN (n + 1) (k + 1) = (n + 1) * cN n k
  | 0, 0 => rfl
  | 0, k + 1 => by
    rw [cN_s, cN_lt 0 (k + 1) (by omega), cN_lt 0 (k + 1 + 1) (by omega)]
    omega
  | n + 1, 0 => by
    have h := cN_mul n 0
    rw [cN_s, cN_0]
    rw [cN_0] at h
    omega
  | n + 1, k + 1 => by
    have h1 := cN_mul n k
    have h2 := cN_mul n (k + 1)
    rw [cN_s (n + 1), cN_s n k]
    rw [cN_s n k] at h1
    rw [cN_s n (k + 1)] at h2 ⊢
    generalize cN n k = A at *
    generalize cN n (k + 1) = B at *
    generalize cN n (k + 1 + 1) = C at *
    simp only [Nat.mul_add, Nat.add_mul, Nat.one_mul, Nat.mul_one] at h1 h2 ⊢
    omega
def xCh (n : Nat) (k : Int32) : Int64 := if k < 0 then 0 else if k ≤ nI n then wL (cN n k.toNatClampNeg) else 0
theorem s_ch16 {n k : Nat} (hn : n ≤ 40) (hk : k ≤ n) (τ : aSt) : ∀ (f i : Nat), i ≤ k → k < i + f → f_X1_choose_16 f (nI n) (nI k) (wL (cN (n - k + i) i)) (nI (i + 1)) τ = some (wL (cN n k), τ) := by
  intro f
  induction f with
  | zero => intro i h1 h2; omega
  | succ f ih =>
    intro i h1 h2
    show f_X1_choose_16_b (f_X1_choose_16 f) (nI n) (nI k) (wL (cN (n - k + i) i)) (nI (i + 1)) τ = _
    unfold f_X1_choose_16_b
    by_cases e : i = k
    · subst e
      rw [if_pos ((nI_ltI (by omega) (by omega)).mpr (by omega)), Nat.sub_add_cancel hk]
    · rw [if_neg (fun q => by rw [nI_ltI (by omega) (by omega)] at q; omega), wL_nI (show i + 1 < 2147483648 by omega), if_pos (show ¬ wL (i + 1) = 0 from fun z => by
        rw [pl_eq, wL_toInt (by omega)] at z
        have : (0 : Int64).toInt = 0 := rfl
        omega), pk_sub hk, nI_add, wL_nI (by omega), wL_mul, nI_1]
      have hm := cN_mul (n - k + i) i
      have hb := cN_le (n - k + i) i
      have h40 : 2 ^ (n - k + i) ≤ 2 ^ 40 := Nat.pow_le_pow_right (by omega) (by omega)
      have hp : cN (n - k + i) i * (n - k + (i + 1)) ≤ 2 ^ 40 * 41 := Nat.mul_le_mul (Nat.le_trans hb h40) (by omega)
      rw [wL_div (by omega) (by omega)]
      have ed : cN (n - k + i) i * (n - k + (i + 1)) / (i + 1) = cN (n - k + (i + 1)) (i + 1) := by
        rw [Nat.mul_comm, ← Nat.add_assoc, ← hm, Nat.mul_div_cancel_left _ (by omega)]
      rw [ed]
      exact ih (i + 1) (by omega) (by omega)
theorem s_choose {n : Nat} (hn : n ≤ 40) (k : Int32) (τ : aSt) : f_X1_choose (nI n) k τ = some (xCh n k, τ) := by
  unfold f_X1_choose xCh f_X1_choose_9
  by_cases c : k < 0
  · rw [if_pos c, if_pos c]
  · rw [if_neg c, if_neg c]
    by_cases d : k ≤ nI n
    · rw [if_pos d, if_pos d]
      have c' : (0 : Int32) ≤ k := Int32.not_lt.mp c
      rw [pi_le, pi_nI (by omega)] at d
      rw [pi_le, show (0 : Int32).toInt = 0 from rfl] at c'
      obtain ⟨j, hj, rfl⟩ : ∃ j, j ≤ n ∧ k = nI j := ⟨k.toInt.toNat, by omega, pi_of c'⟩
      rw [ix_cl (by omega)]
      have := s_ch16 hn hj τ aN 0 (by omega) (by show j < 0 + 1000000; omega)
      rw [cN_0] at this
      exact this
    · rw [if_neg d, if_neg d]
/-- the table so far -/
def tbl (n k : Nat) (τ : aSt) : Prop := ∀ n' k', n' ≤ 40 → k' ≤ n' → (n' < n ∨ (n' = n ∧ k' < k)) → gL τ 82 (41 * n' + k') = wL (cN n' k')
theorem i41 (n k : Nat) : (41 : Int32) * nI n + nI k = nI (41 * n + k) := by
  rw [show (41 : Int32) = nI 41 from rfl, pk_mul, nI_add]
theorem tbl_put {n k : Nat} {τ : aSt} (h : tbl n k τ) (hk : k ≤ n) : tbl n (k + 1) (sL τ 82 (41 * n + k) (wL (cN n k))) := by
  intro n' k' h1 h2 h3
  by_cases e : 41 * n' + k' = 41 * n + k
  · have e1 : n' = n := by omega
    have e2 : k' = k := by omega
    rw [e1, e2, gLs]
  · rw [gLo e]
    refine h n' k' h1 h2 ?_
    rcases h3 with q | q
    · exact Or.inl q
    · refine Or.inr ⟨q.1, ?_⟩
      rcases (by omega : k' < k ∨ k' = k) with z | z
      · exact z
      · exact absurd (by rw [q.1, z]) e
section TB
variable (x5 x6 x7 x8 x9 : Int32)
theorem s_row226 (rec216 : Int32 → Int32 → Int32 → Int32 → Int32 → Int32 → aSt → Option (Int64 × aSt)) {n : Nat} (hn : n ≤ 40) : ∀ (f k : Nat) (τ : aSt), k ≤ n + 1 → n + 1 < k + f → tbl n k τ → ∃ τ', f_X12_drift_226 rec216 f x5 x6 x7 x8 x9 (nI n) (nI k) τ = rec216 x5 x6 x7 x8 x9 (nI (n + 1)) τ' ∧ Fr (fun _ _ => False) τ τ' ∧ tbl n (n + 1) τ' := by
  intro f
  induction f with
  | zero => intro k τ h1 h2; omega
  | succ f ih =>
    intro k τ h1 h2 ht
    show ∃ τ', f_X12_drift_226_b rec216 (f_X12_drift_226 rec216 f) x5 x6 x7 x8 x9 (nI n) (nI k) τ = _ ∧ _
    unfold f_X12_drift_226_b
    by_cases e : k = n + 1
    · subst e
      rw [if_pos ((nI_ltI (by omega) (by omega)).mpr (by omega)), nI_1]
      exact ⟨τ, rfl, Fr.rf, ht⟩
    have hk : k ≤ n := by omega
    have put : ∀ v : Int64, v = wL (cN n k) → ∃ τ', f_X12_drift_294 rec216 (f_X12_drift_226 rec216 f) x5 x6 x7 x8 x9 (nI n) (nI k) (nI (41 * n + k)) v τ = rec216 x5 x6 x7 x8 x9 (nI (n + 1)) τ' ∧ Fr (fun _ _ => False) τ τ' ∧ tbl n (n + 1) τ' := by
      intro v hv
      subst hv
      unfold f_X12_drift_294
      rw [if_pos (ix_in (by omega) (by omega)), ix_cl (by omega), nI_1]
      obtain ⟨τ2, a1, a2, a3⟩ := ih (k + 1) _ (by omega) (by omega) (tbl_put ht hk)
      exact ⟨τ2, a1, (Fr.sL Fr.rf).tr a2, a3⟩
    rw [if_neg (fun q => by rw [nI_ltI (by omega) (by omega)] at q; omega), i41]
    unfold f_X12_drift_257
    by_cases k0 : k = 0
    · rw [if_pos (by rw [k0]; rfl)]
      exact put 1 (by rw [k0, cN_0]; rfl)
    · rw [if_neg (show ¬ nI k = 0 from fun z => k0 (nI_inj (by omega) (by omega) (show nI k = nI 0 from z)))]
      by_cases kn : k = n
      · rw [if_pos (by rw [kn])]
        exact put 1 (by rw [kn, cN_self]; rfl)
      · rw [if_neg (fun z => kn (nI_inj (by omega) (by omega) z))]
        obtain ⟨n', rfl⟩ : ∃ n', n = n' + 1 := ⟨n - 1, by omega⟩
        obtain ⟨k', rfl⟩ : ∃ k', k = k' + 1 := ⟨k - 1, by omega⟩
        rw [nI_s1, i41, show 41 * n' + (k' + 1) = (41 * n' + k') + 1 by omega, nI_s1, if_pos (ix_in (by omega) (by omega)), if_pos (ix_in (by omega) (by omega)), ix_cl (by omega), ix_cl (by omega)]
        refine put _ ?_
        rw [ht n' k' (by omega) (by omega) (Or.inl (by omega)), show 41 * n' + k' + 1 = 41 * n' + (k' + 1) by omega, ht n' (k' + 1) (by omega) (by omega) (Or.inl (by omega)), wL_add, cN_s]
theorem s_tab216 : ∀ (f n : Nat) (τ : aSt), n ≤ 41 → 41 < n + f → tbl n 0 τ → ∃ τ', f_X12_drift_216 f x5 x6 x7 x8 x9 (nI n) τ = (if 0 ≤ ((x7 * x8) - (x9 * x6)) then f_X12_drift_340 (x5) (x6) (x7) (x8) (x9) (x7 + x9) ((x7 * x8) - (x9 * x6)) τ' else f_X12_drift_340 (x5) (x6) (x7) (x8) (x9) (x7 + x9) (-((x7 * x8) - (x9 * x6))) τ') ∧ Fr (fun _ _ => False) τ τ' ∧ tbl 41 0 τ' := by
  intro f
  induction f with
  | zero => intro n τ h1 h2; omega
  | succ f ih =>
    intro n τ h1 h2 ht
    show ∃ τ', f_X12_drift_216_b (f_X12_drift_216 f) x5 x6 x7 x8 x9 (nI n) τ = _ ∧ _
    unfold f_X12_drift_216_b
    by_cases e : n = 41
    · subst e
      rw [if_pos (show (41 : Int32) ≤ nI 41 from Int32.le_refl _)]
      exact ⟨τ, rfl, Fr.rf, ht⟩
    · rw [if_neg (show ¬ (41 : Int32) ≤ nI n by rw [show (41 : Int32) = nI 41 from rfl, nI_leI (by omega) (by omega)]; omega)]
      obtain ⟨τ1, a1, a2, a3⟩ := s_row226 x5 x6 x7 x8 x9 (f_X12_drift_216 f) (show n ≤ 40 by omega) aN 0 τ (by omega) (by show n + 1 < 0 + 1000000; omega) ht
      rw [show f_X12_drift_226 (f_X12_drift_216 f) aN x5 x6 x7 x8 x9 (nI n) 0 τ = _ from a1]
      obtain ⟨τ2, b1, b2, b3⟩ := ih (n + 1) τ1 (by omega) (by omega) (fun n' k' q1 q2 q3 => a3 n' k' q1 q2 (by
        rcases q3 with q | q
        · rcases (by omega : n' < n ∨ n' = n) with z | z
          · exact Or.inl z
          · exact Or.inr ⟨z, by omega⟩
        · omega))
      exact ⟨τ2, b1, a2.tr b2, b3⟩
end TB
theorem s_waysOf {n : Nat} (hn : n ≤ 40) (k : Int32) {τ : aSt} (ht : tbl 41 0 τ) : f_X12_waysOf (nI n) k τ = some (xCh n k, τ) := by
  unfold f_X12_waysOf xCh f_X12_waysOf_9 f_X12_waysOf_24
  by_cases c : k < 0
  · rw [if_pos c, if_pos c]
  · rw [if_neg c, if_neg c]
    by_cases d : k ≤ nI n
    · rw [if_pos d, if_pos d]
      have c' : (0 : Int32) ≤ k := Int32.not_lt.mp c
      rw [pi_le, pi_nI (by omega)] at d
      rw [pi_le, show (0 : Int32).toInt = 0 from rfl] at c'
      obtain ⟨j, hj, rfl⟩ : ∃ j, j ≤ n ∧ k = nI j := ⟨k.toInt.toNat, by omega, pi_of c'⟩
      rw [i41, if_pos (ix_in (by omega) (by omega)), ix_cl (by omega), ix_cl (by omega), ht n j hn hj (Or.inl (by omega))]
    · rw [if_neg d, if_neg d]
