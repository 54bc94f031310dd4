/-! ===== numbers, frames over the abstract heap, the leaves ===== -/
theorem pi_lt (a b : Int32) : a < b ↔ a.toInt < b.toInt := Int32.lt_iff_toInt_lt
theorem pi_le (a b : Int32) : a ≤ b ↔ a.toInt ≤ b.toInt := Int32.le_iff_toInt_le
theorem pi_eq (a b : Int32) : a = b ↔ a.toInt = b.toInt := ⟨fun h => h ▸ rfl, fun h => Int32.toInt_inj.mp h⟩
theorem pl_lt (a b : Int64) : a < b ↔ a.toInt < b.toInt := Int64.lt_iff_toInt_lt
theorem pl_le (a b : Int64) : a ≤ b ↔ a.toInt ≤ b.toInt := Int64.le_iff_toInt_le
theorem pl_eq (a b : Int64) : a = b ↔ a.toInt = b.toInt := ⟨fun h => h ▸ rfl, fun h => Int64.toInt_inj.mp h⟩
theorem pi_rng (x : Int32) : -2147483648 ≤ x.toInt ∧ x.toInt < 2147483648 := by
  have h1 := Int32.le_toInt x
  have h2 := Int32.toInt_lt x
  constructor <;> omega
theorem pi_wide (x : Int32) : x.toInt64.toInt = x.toInt := Int32.toInt_toInt64 x
theorem pi_cl (x : Int32) : x.toNatClampNeg = x.toInt.toNat := rfl
theorem pi_nI {n : Nat} (h : n < 2147483648) : (nI n).toInt = n := nI_toInt h
theorem pi_of {x : Int32} (h : 0 ≤ x.toInt) : x = nI x.toInt.toNat := by
  rw [pi_eq, pi_nI (by have := (pi_rng x).2; omega)]
  omega
theorem pi_bm {z : Int} (h1 : -2147483648 ≤ z) (h2 : z < 2147483648) : z.bmod 4294967296 = z := by
  rw [Int.bmod_eq_of_le] <;> omega
theorem pi_add {x y : Int32} (h1 : -2147483648 ≤ x.toInt + y.toInt) (h2 : x.toInt + y.toInt < 2147483648) : (x + y).toInt = x.toInt + y.toInt := by
  rw [Int32.toInt_add]; exact pi_bm h1 h2
theorem pi_sub {x y : Int32} (h1 : -2147483648 ≤ x.toInt - y.toInt) (h2 : x.toInt - y.toInt < 2147483648) : (x - y).toInt = x.toInt - y.toInt := by
  rw [Int32.toInt_sub]; exact pi_bm h1 h2
theorem pi_mul {x y : Int32} (h1 : -2147483648 ≤ x.toInt * y.toInt) (h2 : x.toInt * y.toInt < 2147483648) : (x * y).toInt = x.toInt * y.toInt := by
  rw [Int32.toInt_mul]; exact pi_bm h1 h2
theorem ix_in {n N : Nat} (h : n < N) (hN : N < 2147483648) : inB (nI n) N := nI_in h hN
theorem ix_cl {n : Nat} (h : n < 2147483648) : (nI n).toNatClampNeg = n := nI_clamp h
theorem ix_of {x : Int32} {N : Nat} (h : inB x N) : ∃ n, n < N ∧ x = nI n := by
  have h0 : ¬ x < 0 := fun q => h (Or.inl q)
  have h1 : ¬ N ≤ x.toNatClampNeg := fun q => h (Or.inr q)
  rw [pi_lt] at h0
  have h2 : 0 ≤ x.toInt := by have : (0 : Int32).toInt = 0 := rfl; omega
  exact ⟨x.toInt.toNat, by rw [pi_cl] at h1; omega, pi_of h2⟩
theorem ix_rng {x : Int32} {lo hi : Int32} {N : Nat} (h0 : lo.toInt = 0) (hN : hi.toInt + 1 = N) (h1 : lo ≤ x) (h2 : x ≤ hi) : ∃ n, n < N ∧ x = nI n := by
  rw [pi_le] at h1 h2
  exact ⟨x.toInt.toNat, by omega, pi_of (by omega)⟩
/-! cells that a step leaves as they were -/
def Fr (C : Nat → Nat → Prop) (σ σ' : aSt) : Prop := gN σ' = gN σ ∧ (∀ a k, ¬ C a k → gI σ' a k = gI σ a k) ∧ (∀ a k, ¬ C a k → gR σ' a k = gR σ a k)
theorem Fr.rf {C : Nat → Nat → Prop} {σ : aSt} : Fr C σ σ := ⟨rfl, fun _ _ _ => rfl, fun _ _ _ => rfl⟩
theorem Fr.tr {C : Nat → Nat → Prop} {σ σ1 σ2 : aSt} (h1 : Fr C σ σ1) (h2 : Fr C σ1 σ2) : Fr C σ σ2 := ⟨h2.1.trans h1.1, fun a k h => (h2.2.1 a k h).trans (h1.2.1 a k h), fun a k h => (h2.2.2 a k h).trans (h1.2.2 a k h)⟩
theorem Fr.mono {C D : Nat → Nat → Prop} {σ σ' : aSt} (h : Fr C σ σ') (hs : ∀ a k, C a k → D a k) : Fr D σ σ' := ⟨h.1, fun a k q => h.2.1 a k (fun z => q (hs a k z)), fun a k q => h.2.2 a k (fun z => q (hs a k z))⟩
theorem Fr.sI {C : Nat → Nat → Prop} {σ σ' : aSt} (h : Fr C σ σ') {a k : Nat} {v : Int32} (hc : C a k) : Fr C σ (sI σ' a k v) := by
  refine h.tr ⟨rfl, fun b j q => ?_, fun b j q => rfl⟩
  rw [gI_sI]
  by_cases hb : b = a
  · subst hb
    have hj : j ≠ k := fun z => q (z ▸ hc)
    rw [if_pos rfl, if_neg hj]
  · rw [if_neg hb]
theorem Fr.sL {C : Nat → Nat → Prop} {σ σ' : aSt} (h : Fr C σ σ') {a k : Nat} {v : Int64} : Fr C σ (sL σ' a k v) := h.tr ⟨rfl, fun _ _ _ => rfl, fun _ _ _ => rfl⟩
theorem Fr.sR {C : Nat → Nat → Prop} {σ σ' : aSt} (h : Fr C σ σ') {a k : Nat} {v : Option Nat} (hc : C a k) : Fr C σ (sR σ' a k v) := by
  refine h.tr ⟨rfl, fun b j q => rfl, fun b j q => ?_⟩
  rw [gR_sR]
  by_cases hb : b = a
  · subst hb
    have hj : j ≠ k := fun z => q (z ▸ hc)
    rw [if_pos rfl, if_neg hj]
  · rw [if_neg hb]
theorem Fr.sC {C : Nat → Nat → Prop} {σ σ' : aSt} (h : Fr C σ σ') {a sp b dp n : Nat} (hc : ∀ k, C b k) : Fr C σ (sC σ' a sp b dp n) := by
  refine h.tr ⟨rfl, fun x j q => ?_, fun x j q => rfl⟩
  have hx : x ≠ b := fun z => q (z ▸ hc j)
  rw [gI_sC, if_neg hx]
/-- reading cells that were written -/
theorem gI_same (σ : aSt) (a k : Nat) (v : Int32) : gI (sI σ a k v) a k = v := by rw [gI_sI, if_pos rfl, if_pos rfl]
theorem gI_other {σ : aSt} {a k b j : Nat} {v : Int32} (h : b ≠ a ∨ j ≠ k) : gI (sI σ a k v) b j = gI σ b j := by
  rw [gI_sI]
  by_cases hb : b = a
  · subst hb
    rcases h with h | h
    · exact absurd rfl h
    · rw [if_pos rfl, if_neg h]
  · rw [if_neg hb]
/-! the leaves -/
theorem v1_ok : (1 : Int32) &&& 1 = 1 := rfl
theorem v0_ok : (0 : Int32) &&& 1 = 0 := rfl
/-- a truth value as an int -/
def bI (b : Bool) : Int32 := if b then 1 else 0
theorem bI_and (b : Bool) : bI b &&& 1 = bI b := by cases b <;> rfl
theorem bI_0 (b : Bool) : (bI b = 0) = (b = false) := by cases b <;> simp [bI]
theorem bI_1 (b : Bool) : (bI b = 1) = (b = true) := by cases b <;> simp [bI]
theorem s_within (a b c : Int32) (σ : aSt) : f_X11_within a b c σ = some (bI (decide (b ≤ a ∧ a ≤ c)), σ) := by
  unfold f_X11_within f_X11_within_14 f_X11_within_15
  by_cases h1 : a < b
  · have : ¬ (b ≤ a ∧ a ≤ c) := fun q => absurd q.1 (Int32.not_le.mpr h1)
    rw [if_pos h1, if_pos v0_ok]; simp [this, bI]
  · by_cases h2 : c < a
    · have : ¬ (b ≤ a ∧ a ≤ c) := fun q => absurd q.2 (Int32.not_le.mpr h2)
      rw [if_neg h1, if_pos h2, if_pos v0_ok]; simp [this, bI]
    · have : b ≤ a ∧ a ≤ c := ⟨Int32.not_lt.mp h1, Int32.not_lt.mp h2⟩
      rw [if_neg h1, if_neg h2, if_pos v1_ok]; simp [this, bI]
theorem lc_lt (x y : Int64) : (lg_cmp x y < 0) = (x < y) := by
  unfold lg_cmp
  by_cases h1 : y < x
  · have h2 : ¬ x < y := fun q => by rw [pl_lt] at q h1; omega
    simp [h1, h2]
  · by_cases h2 : x = y
    · subst h2
      simp
    · have h3 : x < y := by rw [pl_lt] at h1 ⊢; rw [pl_eq] at h2; omega
      simp [h1, h2, h3]
theorem lc_gt (x y : Int64) : (0 < lg_cmp x y) = (y < x) := by
  unfold lg_cmp
  by_cases h1 : y < x
  · simp [h1]
  · by_cases h2 : x = y
    · subst h2
      simp
    · simp [h1, h2]
theorem lc_le (x y : Int64) : (lg_cmp x y ≤ 0) = (x ≤ y) := by
  have h := lc_gt x y
  rw [← Int32.not_lt, h, Int64.not_lt]
theorem lc_ge (x y : Int64) : (0 ≤ lg_cmp x y) = (y ≤ x) := by
  have h := lc_lt x y
  rw [← Int32.not_lt, h, Int64.not_lt]
theorem lc_eq (x y : Int64) : (lg_cmp x y = 0) = (x = y) := by
  unfold lg_cmp
  by_cases h1 : y < x
  · have h2 : ¬ x = y := fun q => by rw [q, pl_lt] at h1; omega
    simp [h1, h2]
  · by_cases h2 : x = y
    · subst h2
      simp
    · simp [h1, h2]
theorem s_inL (a b c : Int64) (σ : aSt) : f_X12_in a b c σ = some (bI (decide (b ≤ a ∧ a ≤ c)), σ) := by
  unfold f_X12_in f_X12_in_17 f_X12_in_18
  simp only [lc_lt, lc_gt]
  by_cases h1 : a < b
  · have : ¬ (b ≤ a ∧ a ≤ c) := fun q => absurd q.1 (Int64.not_le.mpr h1)
    rw [if_pos h1, if_pos v0_ok]; simp [this, bI]
  · by_cases h2 : c < a
    · have : ¬ (b ≤ a ∧ a ≤ c) := fun q => absurd q.2 (Int64.not_le.mpr h2)
      rw [if_neg h1, if_pos h2, if_pos v0_ok]; simp [this, bI]
    · have : b ≤ a ∧ a ≤ c := ⟨Int64.not_lt.mp h1, Int64.not_lt.mp h2⟩
      rw [if_neg h1, if_neg h2, if_pos v1_ok]; simp [this, bI]
/-- the model's test, of an int between ints -/
theorem s_in (b c : Int64) (lo hi : Int32) {a : Int32} (hb : lo.toInt64 = b) (hc : hi.toInt64 = c) (σ : aSt) : f_X12_in a.toInt64 b c σ = some (bI (decide (lo ≤ a ∧ a ≤ hi)), σ) := by
  rw [s_inL, ← hb, ← hc]
  congr 3
  simp only [pl_le, pi_wide, pi_le]
theorem s_isSheet (a : Int32) (σ : aSt) : f_X11_isSheet a σ = some (bI (decide (0 ≤ a ∧ a ≤ 7)), σ) := by
  unfold f_X11_isSheet
  rw [s_within]
  simp only [Option.bind_some, bI_and, if_true]
theorem s_isSheetM (a : Int32) (σ : aSt) : f_X12_isSheet a σ = some (bI (decide (0 ≤ a ∧ a ≤ 7)), σ) := by
  unfold f_X12_isSheet
  rw [s_in 0 7 0 7 rfl rfl]
  simp only [Option.bind_some, bI_and, if_true]
theorem s_areBounds (a b : Int32) (σ : aSt) : f_X11_areBounds a b σ = some (bI (decide (0 ≤ a ∧ a ≤ 200000 ∧ a ≤ b ∧ b ≤ 200000)), σ) := by
  unfold f_X11_areBounds f_X11_areBounds_26 f_X11_areBounds_27
  rw [s_within]
  simp only [Option.bind_some, bI_0, decide_eq_false_iff_not]
  by_cases h : 0 ≤ a ∧ a ≤ 200000
  · rw [if_neg (not_not_intro h), s_within]
    simp only [Option.bind_some, bI_0, decide_eq_false_iff_not]
    by_cases h2 : a ≤ b ∧ b ≤ 200000
    · rw [if_neg (not_not_intro h2), if_pos v1_ok]
      simp [h.1, h.2, h2.1, h2.2, bI]
    · rw [if_pos h2, if_pos v0_ok]
      have : ¬ (0 ≤ a ∧ a ≤ 200000 ∧ a ≤ b ∧ b ≤ 200000) := fun q => h2 q.2.2
      simp [this, bI]
  · rw [if_pos h, if_pos v0_ok]
    have : ¬ (0 ≤ a ∧ a ≤ 200000 ∧ a ≤ b ∧ b ≤ 200000) := fun q => h ⟨q.1, q.2.1⟩
    simp [this, bI]
/-- Arrays.fill -/
theorem s_fill_loop (a : Nat) (v : Int32) (hs : aSh a = 13) (hL : aLn a < 2147483648) : ∀ (n k : Nat) (σ : aSt), a < gN σ → k ≤ aLn a → aLn a < k + n → ∃ σ', f_J7_fill_53178_5 n a v (nI k) (nI (aLn a)) σ = some ((), σ') ∧ Fr (fun b j => b = a ∧ k ≤ j ∧ j < aLn a) σ σ' ∧ gL σ' = gL σ ∧ ∀ j, k ≤ j → j < aLn a → gI σ' a j = v := by
  intro n
  induction n with
  | zero => intro k σ _ h1 h2; omega
  | succ n ih =>
    intro k σ hg h1 h2
    show ∃ σ', f_J7_fill_53178_5_b (f_J7_fill_53178_5 n) a v (nI k) (nI (aLn a)) σ = some ((), σ') ∧ _
    unfold f_J7_fill_53178_5_b
    by_cases hk : k = aLn a
    · subst hk
      rw [if_pos (Int32.le_refl _)]
      exact ⟨σ, rfl, Fr.rf, rfl, fun j h3 h4 => by omega⟩
    · have hlt : k < aLn a := by omega
      rw [if_neg (fun q => hk (by rw [nI_leI (by omega) (by omega)] at q; omega)), if_pos ⟨hs, hg⟩, if_pos (ix_in hlt hL), ix_cl (by omega), nI_1]
      obtain ⟨σ', e1, e2, e2b, e3⟩ := ih (k + 1) (sI σ a k v) hg (by omega) (by omega)
      refine ⟨σ', e1, ?_, by rw [e2b]; rfl, fun j h3 h4 => ?_⟩
      · exact (Fr.sI Fr.rf ⟨rfl, Nat.le_refl _, hlt⟩).tr (e2.mono (fun b j ⟨q1, q2, q3⟩ => ⟨q1, by omega, q3⟩))
      · by_cases hj : j = k
        · subst hj
          rw [e2.2.1 a j (fun q => by omega), gI_same]
        · exact e3 j (by omega) h4
theorem s_fill (a : Nat) (v : Int32) (σ : aSt) (hs : aSh a = 13) (hL : aLn a ≤ 10000) (hg : a < gN σ) : ∃ σ', f_J7_fill_53178 a v σ = some ((), σ') ∧ Fr (fun b j => b = a ∧ j < aLn a) σ σ' ∧ gL σ' = gL σ ∧ ∀ j, j < aLn a → gI σ' a j = v := by
  unfold f_J7_fill_53178
  rw [if_pos ⟨hs, hg⟩]
  obtain ⟨σ', e1, e2, e2b, e3⟩ := s_fill_loop a v hs (by omega) aN 0 σ hg (Nat.zero_le _) (by show aLn a < 0 + 1000000; omega)
  exact ⟨σ', e1, e2.mono (fun b j q => ⟨q.1, q.2.2⟩), e2b, fun j h => e3 j (Nat.zero_le _) h⟩
