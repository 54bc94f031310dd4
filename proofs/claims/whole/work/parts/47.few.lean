/-! ===== the fewest rules: choosing by weight finds the least set ===== -/
def bS (v : Nat → Nat) (t : Nat) : Nat → Nat
  | 0 => 0
  | n + 1 => bS v t n + (if t.testBit n = true then v n else 0)
def sbs (t s : Nat) : Prop := ∀ i, t.testBit i = true → s.testBit i = true
def one (_ : Nat) : Nat := 1
theorem sbs_0 (s : Nat) : sbs 0 s := fun i hi => by
  rw [Nat.zero_testBit] at hi
  cases hi
theorem tx_bit (t k i : Nat) : (t ^^^ 2 ^ k).testBit i = (t.testBit i ^^ decide (k = i)) := by
  rw [Nat.testBit_xor, Nat.testBit_two_pow]
theorem tx_same {t k : Nat} (h : t.testBit k = true) : (t ^^^ 2 ^ k).testBit k = false := by
  rw [tx_bit, h]
  simp
theorem tx_other {t k i : Nat} (h : i ≠ k) : (t ^^^ 2 ^ k).testBit i = t.testBit i := by
  rw [tx_bit, decide_eq_false (fun z => h z.symm)]
  simp
theorem tx_back (t k : Nat) : (t ^^^ 2 ^ k) ^^^ 2 ^ k = t := by
  rw [Nat.xor_assoc, Nat.xor_self, Nat.xor_zero]
theorem bS_off {v : Nat → Nat} {t k : Nat} : ∀ n, n ≤ k → bS v (t ^^^ 2 ^ k) n = bS v t n
  | 0, _ => rfl
  | n + 1, h => by
    show bS v (t ^^^ 2 ^ k) n + _ = bS v t n + _
    rw [bS_off n (by omega), tx_other (by omega)]
theorem bS_rm {v : Nat → Nat} {t k : Nat} (h : t.testBit k = true) : ∀ n, k < n → bS v t n = bS v (t ^^^ 2 ^ k) n + v k
  | 0, h => absurd h (Nat.not_lt_zero _)
  | n + 1, hn => by
    show bS v t n + _ = bS v (t ^^^ 2 ^ k) n + _ + _
    by_cases e : n = k
    · subst e
      rw [bS_off n (Nat.le_refl _), if_pos h, tx_same h]
      simp
    · rw [bS_rm h n (by omega), tx_other e]
      omega
theorem bS_0 {v : Nat → Nat} : ∀ n, bS v 0 n = 0
  | 0 => rfl
  | n + 1 => by
    show bS v 0 n + _ = 0
    rw [bS_0 n]
    simp
theorem bS_ext {v : Nat → Nat} {t R : Nat} (h : t < 2 ^ R) : ∀ d, bS v t (R + d) = bS v t R
  | 0 => rfl
  | d + 1 => by
    show bS v t (R + d) + _ = _
    have q : t.testBit (R + d) = false := Nat.testBit_lt_two_pow (Nat.lt_of_lt_of_le h (Nat.pow_le_pow_right (by omega) (Nat.le_add_right R d)))
    rw [bS_ext h d]
    show bS v t R + (if t.testBit (R + d) = true then v (R + d) else 0) = _
    rw [q]
    simp
theorem bS_none {t : Nat} : ∀ n, bS one t n = 0 → ∀ i, i < n → t.testBit i = false
  | 0, _ => fun i h => absurd h (Nat.not_lt_zero _)
  | n + 1, h => fun i hi => by
    have h' : bS one t n + (if t.testBit n = true then 1 else 0) = 0 := h
    by_cases e : i = n
    · subst e
      cases q : t.testBit i with
      | false => rfl
      | true => rw [q, if_pos rfl] at h'; omega
    · exact bS_none n (by omega) i (by omega)
theorem bS_zero {t R : Nat} (h : t < 2 ^ R) (h0 : bS one t R = 0) : t = 0 := by
  apply Nat.eq_of_testBit_eq
  intro i
  rw [Nat.zero_testBit]
  by_cases q : i < R
  · exact bS_none R h0 i q
  · exact Nat.testBit_lt_two_pow (Nat.lt_of_lt_of_le h (Nat.pow_le_pow_right (by omega) (by omega)))
theorem bS_le (t : Nat) : ∀ n, bS one t n ≤ n
  | 0 => Nat.le_refl _
  | n + 1 => by
    have := bS_le t n
    show bS one t n + (if t.testBit n = true then 1 else 0) ≤ n + 1
    split <;> omega
theorem sbs_lt {t s R : Nat} (h : sbs t s) (hs : s < 2 ^ R) : t < 2 ^ R := by
  apply Nat.lt_pow_two_of_testBit
  intro i hi
  cases q : t.testBit i with
  | false => rfl
  | true =>
    have := h i q
    rw [Nat.testBit_lt_two_pow (Nat.lt_of_lt_of_le hs (Nat.pow_le_pow_right (by omega) hi))] at this
    cases this
theorem sbs_rm {t s k : Nat} (h : sbs t s) (hk : t.testBit k = false) : sbs t (s ^^^ 2 ^ k) := by
  intro i hi
  have e : i ≠ k := fun z => by rw [z, hk] at hi; cases hi
  rw [tx_other e]
  exact h i hi
theorem sbs_rm2 {t s k : Nat} (h : sbs t s) (hk : t.testBit k = true) : sbs (t ^^^ 2 ^ k) (s ^^^ 2 ^ k) := by
  intro i hi
  have e : i ≠ k := fun z => by rw [z, tx_same hk] at hi; cases hi
  rw [tx_other e] at hi ⊢
  exact h i hi
theorem sbs_of {t s k : Nat} (hk : s.testBit k = true) (h : sbs t (s ^^^ 2 ^ k)) : sbs t s := by
  intro i hi
  by_cases e : i = k
  · rw [e]; exact hk
  · have := h i hi
    rw [tx_other e] at this
    exact this
theorem sbs_no {t s k : Nat} (hk : s.testBit k = true) (h : sbs t (s ^^^ 2 ^ k)) : t.testBit k = false := by
  cases q : t.testBit k with
  | false => rfl
  | true =>
    have := h k q
    rw [tx_same hk] at this
    cases this
theorem tx_on {t k : Nat} (h : t.testBit k = false) : (t ^^^ 2 ^ k).testBit k = true := by
  rw [tx_bit, h]
  simp
theorem sbs_add {t s k : Nat} (hk : s.testBit k = true) (h : sbs t (s ^^^ 2 ^ k)) : sbs (t ^^^ 2 ^ k) s := by
  intro i hi
  by_cases e : i = k
  · rw [e]; exact hk
  · rw [tx_other e] at hi
    have := h i hi
    rw [tx_other e] at this
    exact this
theorem tx_top {t k : Nat} (h : t < 2 ^ (k + 1)) (hk : t.testBit k = true) : t ^^^ 2 ^ k < 2 ^ k ∧ t = 2 ^ k + (t ^^^ 2 ^ k) := by
  have h1 : t ^^^ 2 ^ k < 2 ^ k := by
    apply Nat.lt_pow_two_of_testBit
    intro i hi
    by_cases e : i = k
    · rw [e]; exact tx_same hk
    · rw [tx_other e]
      exact Nat.testBit_lt_two_pow (Nat.lt_of_lt_of_le h (Nat.pow_le_pow_right (by omega) (by omega)))
  refine ⟨h1, ?_⟩
  have h2 := Nat.two_pow_add_eq_or_of_lt h1 1
  rw [Nat.mul_one] at h2
  rw [h2, Nat.or_comm, mk_xo (tx_same hk), tx_back]
theorem tx_low {t k : Nat} (h : t < 2 ^ (k + 1)) (hk : t.testBit k = false) : t < 2 ^ k := by
  apply Nat.lt_pow_two_of_testBit
  intro i hi
  by_cases e : i = k
  · rw [e]; exact hk
  · exact Nat.testBit_lt_two_pow (Nat.lt_of_lt_of_le h (Nat.pow_le_pow_right (by omega) (by omega)))
theorem tx_new {t k : Nat} (h : t < 2 ^ k) : t ^^^ 2 ^ k = 2 ^ k + t ∧ t ||| 2 ^ k = 2 ^ k + t := by
  have h2 := Nat.two_pow_add_eq_or_of_lt h 1
  rw [Nat.mul_one] at h2
  have h3 : t ||| 2 ^ k = 2 ^ k + t := by rw [h2, Nat.or_comm]
  exact ⟨by rw [← mk_xo (Nat.testBit_lt_two_pow h)]; exact h3, h3⟩
section FEW
variable (w : Nat → Nat)
/-- the first of the heaviest in a set -/
def bst (L : Nat) : Nat → Option Nat
  | 0 => none
  | n + 1 => match bst L n with
    | none => if L.testBit n = true then some n else none
    | some r => if L.testBit n = true then (if w n ≤ w r then some r else some n) else some r
def hv (R : Nat) : Nat → Nat → Nat
  | 0, _ => 0
  | c + 1, L => match bst w L R with
    | none => 0
    | some r => w r + hv R c (L ^^^ 2 ^ r)
def ft (R L : Nat) (n : Int) : Nat → Nat → Nat
  | 0, m => m
  | k + 1, m => if n ≤ hv w R m L then m else ft R L n k (m + 1)
def gr (R : Nat) : Nat → Nat → Nat → Int → Nat
  | 0, _, _, _ => 0
  | k + 1, c, L, n => if c = 0 then 0 else if L.testBit k = true then (if n ≤ hv w R c (L ^^^ 2 ^ k) then gr R k c (L ^^^ 2 ^ k) n else gr R k (c - 1) (L ^^^ 2 ^ k) (n - w k) ||| 2 ^ k) else gr R k c L n
/-- a set that reaches -/
def fea (R s : Nat) (n : Int) (t : Nat) : Prop := sbs t s ∧ n ≤ bS w t R
end FEW
section FEW2
variable {w : Nat → Nat}
theorem bst_s {L n : Nat} : bst w L (n + 1) = (match bst w L n with
    | none => if L.testBit n = true then some n else none
    | some r => if L.testBit n = true then (if w n ≤ w r then some r else some n) else some r) := rfl
theorem bst_spec (L : Nat) : ∀ n, (bst w L n = none ∧ ∀ i, i < n → L.testBit i = false) ∨ (∃ r, bst w L n = some r ∧ r < n ∧ L.testBit r = true ∧ ∀ i, i < n → L.testBit i = true → w i ≤ w r)
  | 0 => Or.inl ⟨rfl, fun i h => absurd h (Nat.not_lt_zero _)⟩
  | n + 1 => by
    rw [bst_s]
    rcases bst_spec L n with ⟨h1, h2⟩ | ⟨r, h1, h2, h3, h4⟩
    · rw [h1]
      show ((if L.testBit n = true then some n else none) = none ∧ _) ∨ (∃ r, (if L.testBit n = true then some n else none) = some r ∧ _)
      cases q : L.testBit n with
      | true =>
        rw [if_pos rfl]
        refine Or.inr ⟨n, rfl, by omega, q, fun i hi hb => ?_⟩
        by_cases e : i = n
        · rw [e]; exact Nat.le_refl _
        · rw [h2 i (by omega)] at hb; cases hb
      | false =>
        rw [if_neg (by decide)]
        refine Or.inl ⟨rfl, fun i hi => ?_⟩
        by_cases e : i = n
        · rw [e]; exact q
        · exact h2 i (by omega)
    · rw [h1]
      right
      show ∃ r', (if L.testBit n = true then (if w n ≤ w r then some r else some n) else some r) = some r' ∧ _
      cases q : L.testBit n with
      | true =>
        rw [if_pos rfl]
        by_cases c : w n ≤ w r
        · rw [if_pos c]
          refine ⟨r, rfl, by omega, h3, fun i hi hb => ?_⟩
          by_cases e : i = n
          · rw [e]; exact c
          · exact h4 i (by omega) hb
        · rw [if_neg c]
          refine ⟨n, rfl, by omega, q, fun i hi hb => ?_⟩
          by_cases e : i = n
          · rw [e]; exact Nat.le_refl _
          · have := h4 i (by omega) hb
            omega
      | false =>
        rw [if_neg (by decide)]
        refine ⟨r, rfl, by omega, h3, fun i hi hb => ?_⟩
        by_cases e : i = n
        · rw [e, q] at hb; cases hb
        · exact h4 i (by omega) hb
theorem hv_s {R c L : Nat} : hv w R (c + 1) L = (match bst w L R with
    | none => 0
    | some r => w r + hv w R c (L ^^^ 2 ^ r)) := rfl
theorem hv_iff {R : Nat} : ∀ (c L : Nat) (n : Int), L < 2 ^ R → (n ≤ hv w R c L ↔ ∃ t, fea w R L n t ∧ bS one t R ≤ c)
  | 0, L, n, hL => by
    constructor
    · intro h
      exact ⟨0, ⟨sbs_0 _, by rw [bS_0]; exact h⟩, by rw [bS_0]; omega⟩
    · rintro ⟨t, ⟨h1, h2⟩, h3⟩
      have : t = 0 := bS_zero (sbs_lt h1 hL) (by omega)
      rw [this, bS_0] at h2
      exact h2
  | c + 1, L, n, hL => by
    rw [hv_s]
    rcases bst_spec (w := w) L R with ⟨b1, b2⟩ | ⟨r, b1, b2, b3, b4⟩
    · rw [b1]
      have hL0 : L = 0 := by
        apply Nat.eq_of_testBit_eq
        intro i
        rw [Nat.zero_testBit]
        by_cases q : i < R
        · exact b2 i q
        · exact Nat.testBit_lt_two_pow (Nat.lt_of_lt_of_le hL (Nat.pow_le_pow_right (by omega) (by omega)))
      constructor
      · intro h
        exact ⟨0, ⟨sbs_0 _, by rw [bS_0]; exact h⟩, by rw [bS_0]; omega⟩
      · rintro ⟨t, ⟨h1, h2⟩, h3⟩
        have : t = 0 := by
          apply Nat.eq_of_testBit_eq
          intro i
          rw [Nat.zero_testBit]
          cases q : t.testBit i with
          | false => rfl
          | true =>
            have := h1 i q
            rw [hL0, Nat.zero_testBit] at this
            cases this
        rw [this, bS_0] at h2
        exact h2
    · rw [b1]
      have hL' : L ^^^ 2 ^ r < 2 ^ R := Nat.xor_lt_two_pow hL (Nat.pow_lt_pow_right (by omega) b2)
      have ih := hv_iff (R := R) c (L ^^^ 2 ^ r) (n - w r) hL'
      show n ≤ ((w r + hv w R c (L ^^^ 2 ^ r) : Nat) : Int) ↔ _
      constructor
      · intro h
        obtain ⟨t, ⟨h1, h2⟩, h3⟩ := ih.mp (by omega)
        have hn := sbs_no b3 h1
        have e1 := bS_rm (v := w) (tx_on hn) R b2
        have e2 := bS_rm (v := one) (tx_on hn) R b2
        rw [tx_back] at e1 e2
        refine ⟨t ^^^ 2 ^ r, ⟨sbs_add b3 h1, by omega⟩, ?_⟩
        rw [e2]
        show _ + 1 ≤ _
        omega
      · rintro ⟨t, ⟨h1, h2⟩, h3⟩
        have key : n - w r ≤ hv w R c (L ^^^ 2 ^ r) := by
          rw [ih]
          cases q : t.testBit r with
          | true =>
            have e1 := bS_rm (v := w) q R b2
            have e2 := bS_rm (v := one) q R b2
            refine ⟨t ^^^ 2 ^ r, ⟨sbs_rm2 h1 q, by omega⟩, ?_⟩
            have : one r = 1 := rfl
            omega
          | false =>
            by_cases z : t = 0
            · refine ⟨0, ⟨sbs_0 _, ?_⟩, by rw [bS_0]; omega⟩
              rw [z, bS_0] at h2
              rw [bS_0]
              omega
            · obtain ⟨j, hj⟩ : ∃ j, t.testBit j = true := by
                refine Classical.byContradiction (fun hn => z (Nat.eq_of_testBit_eq (fun i => ?_)))
                rw [Nat.zero_testBit]
                cases q2 : t.testBit i with
                | false => rfl
                | true => exact absurd ⟨i, q2⟩ hn
              have hjR : j < R := by
                refine Classical.byContradiction (fun hn => ?_)
                rw [Nat.testBit_lt_two_pow (Nat.lt_of_lt_of_le (sbs_lt h1 hL) (Nat.pow_le_pow_right (by omega) (by omega)))] at hj
                cases hj
              have e1 := bS_rm (v := w) hj R hjR
              have e2 := bS_rm (v := one) hj R hjR
              have hwj := b4 j hjR (h1 j hj)
              have : one j = 1 := rfl
              refine ⟨t ^^^ 2 ^ j, ⟨fun i hi => ?_, by omega⟩, by omega⟩
              have hi' : t.testBit i = true := by
                by_cases e : i = j
                · rw [e]; exact hj
                · rw [tx_other e] at hi; exact hi
              exact sbs_rm h1 q i hi'
        omega
theorem ft_spec {R L : Nat} {n : Int} : ∀ k m, k + m = R → (∀ j, j < m → ¬ n ≤ hv w R j L) → ft w R L n k m ≤ R ∧ (∀ j, j < ft w R L n k m → ¬ n ≤ hv w R j L) ∧ (ft w R L n k m = R ∨ n ≤ hv w R (ft w R L n k m) L)
  | 0, m, h, hj => ⟨by show m ≤ R; omega, hj, Or.inl (by show m = R; omega)⟩
  | k + 1, m, h, hj => by
    show (if n ≤ hv w R m L then m else ft w R L n k (m + 1)) ≤ R ∧ (∀ j, j < (if n ≤ hv w R m L then m else ft w R L n k (m + 1)) → _) ∧ ((if n ≤ hv w R m L then m else ft w R L n k (m + 1)) = R ∨ n ≤ hv w R (if n ≤ hv w R m L then m else ft w R L n k (m + 1)) L)
    by_cases c : n ≤ hv w R m L
    · rw [if_pos c]
      exact ⟨by omega, hj, Or.inr c⟩
    · rw [if_neg c]
      refine ft_spec k (m + 1) (by omega) (fun j hj2 => ?_)
      by_cases e : j = m
      · rw [e]; exact c
      · exact hj j (by omega)
theorem gr_spec {R : Nat} : ∀ (k c L : Nat) (n : Int), L < 2 ^ k → k ≤ R → (∃ t, fea w R L n t ∧ bS one t R ≤ c) → fea w R L n (gr w R k c L n) ∧ bS one (gr w R k c L n) R ≤ c ∧ ∀ t, fea w R L n t → bS one t R ≤ c → gr w R k c L n ≤ t
  | 0, c, L, n, hL, hk, ⟨t, ht, hc⟩ => by
    have e : ∀ t, sbs t L → t = 0 := fun t h => by have := sbs_lt h hL; omega
    have := e t ht.1
    subst this
    exact ⟨ht, hc, fun t _ _ => Nat.zero_le _⟩
  | k + 1, c, L, n, hL, hk, ⟨t, ht, hc⟩ => by
    have hLR : L < 2 ^ R := Nat.lt_of_lt_of_le hL (Nat.pow_le_pow_right (by omega) hk)
    show fea w R L n (if c = 0 then 0 else if L.testBit k = true then (if n ≤ hv w R c (L ^^^ 2 ^ k) then gr w R k c (L ^^^ 2 ^ k) n else gr w R k (c - 1) (L ^^^ 2 ^ k) (n - w k) ||| 2 ^ k) else gr w R k c L n) ∧ bS one (if c = 0 then 0 else if L.testBit k = true then (if n ≤ hv w R c (L ^^^ 2 ^ k) then gr w R k c (L ^^^ 2 ^ k) n else gr w R k (c - 1) (L ^^^ 2 ^ k) (n - w k) ||| 2 ^ k) else gr w R k c L n) R ≤ c ∧ ∀ t, fea w R L n t → bS one t R ≤ c → (if c = 0 then 0 else if L.testBit k = true then (if n ≤ hv w R c (L ^^^ 2 ^ k) then gr w R k c (L ^^^ 2 ^ k) n else gr w R k (c - 1) (L ^^^ 2 ^ k) (n - w k) ||| 2 ^ k) else gr w R k c L n) ≤ t
    by_cases c0 : c = 0
    · rw [if_pos c0]
      have : t = 0 := bS_zero (sbs_lt ht.1 hLR) (by omega)
      rw [this] at ht hc
      exact ⟨ht, hc, fun t _ _ => Nat.zero_le _⟩
    rw [if_neg c0]
    by_cases hb : L.testBit k = true
    case neg =>
      rw [if_neg hb]
      have hb' : L.testBit k = false := by
        cases q : L.testBit k with
        | true => exact absurd q hb
        | false => rfl
      exact gr_spec k c L n (tx_low hL hb') (by omega) ⟨t, ht, hc⟩
    rw [if_pos hb]
    obtain ⟨t1, t2⟩ := tx_top hL hb
    have hL2 : L ^^^ 2 ^ k < 2 ^ R := Nat.lt_of_lt_of_le t1 (Nat.pow_le_pow_right (by omega) (by omega))
    have hiff := hv_iff (w := w) (R := R) c (L ^^^ 2 ^ k) n hL2
    by_cases d : n ≤ hv w R c (L ^^^ 2 ^ k)
    · rw [if_pos d]
      obtain ⟨s1, s2, s3⟩ := gr_spec k c (L ^^^ 2 ^ k) n t1 (by omega) (hiff.mp d)
      refine ⟨⟨sbs_of hb s1.1, s1.2⟩, s2, fun u hu hcu => ?_⟩
      cases q : u.testBit k with
      | true =>
        have h1 := sbs_lt s1.1 t1
        have h2 := (tx_top (sbs_lt hu.1 hL) q).2
        omega
      | false => exact s3 u ⟨sbs_rm hu.1 q, hu.2⟩ hcu
    · rw [if_neg d]
      have must : ∀ u, fea w R L n u → bS one u R ≤ c → u.testBit k = true := fun u hu hcu => by
        cases q : u.testBit k with
        | true => rfl
        | false => exact absurd (hiff.mpr ⟨u, ⟨sbs_rm hu.1 q, hu.2⟩, hcu⟩) d
      have hone : one k = 1 := rfl
      have down : ∀ u, fea w R L n u → bS one u R ≤ c → fea w R (L ^^^ 2 ^ k) (n - w k) (u ^^^ 2 ^ k) ∧ bS one (u ^^^ 2 ^ k) R ≤ c - 1 := fun u hu hcu => by
        have q := must u hu hcu
        have e1 := bS_rm (v := w) q R (by omega)
        have e2 := bS_rm (v := one) q R (by omega)
        have := hu.2
        exact ⟨⟨sbs_rm2 hu.1 q, by omega⟩, by omega⟩
      obtain ⟨s1, s2, s3⟩ := gr_spec k (c - 1) (L ^^^ 2 ^ k) (n - w k) t1 (by omega) ⟨_, down t ht hc⟩
      have hB := sbs_lt s1.1 t1
      obtain ⟨n1, n2⟩ := tx_new hB
      have hnb : (gr w R k (c - 1) (L ^^^ 2 ^ k) (n - w k)).testBit k = false := Nat.testBit_lt_two_pow hB
      rw [n2, ← n1]
      have e1 := bS_rm (v := w) (tx_on hnb) R (by omega)
      have e2 := bS_rm (v := one) (tx_on hnb) R (by omega)
      rw [tx_back] at e1 e2
      have h12 := s1.2
      refine ⟨⟨sbs_add hb s1.1, by omega⟩, by omega, fun u hu hcu => ?_⟩
      have q := must u hu hcu
      have h2 := (tx_top (sbs_lt hu.1 hL) q).2
      have h3 := s3 _ (down u hu hcu).1 (down u hu hcu).2
      rw [n1]
      omega
/-- the least set among the fewest: by trying all -/
def bm (w : Nat → Nat) (R s : Nat) (n : Int) : Nat → Option Nat
  | 0 => none
  | x + 1 => if (x &&& (s ^^^ 4294967295)) = 0 ∧ n ≤ bS w x R then (match bm w R s n x with
    | none => some x
    | some y => if bS one y R ≤ bS one x R then some y else some x) else bm w R s n x
theorem sbs_iff {x s : Nat} (hx : x < 4294967296) : (x &&& (s ^^^ 4294967295)) = 0 ↔ sbs x s := by
  constructor
  · intro h i hi
    have hi32 : i < 32 := by
      refine Classical.byContradiction (fun hn => ?_)
      rw [Nat.testBit_lt_two_pow (Nat.lt_of_lt_of_le (show x < 2 ^ 32 from hx) (Nat.pow_le_pow_right (by omega) (by omega)))] at hi
      cases hi
    have h2 := congrArg (fun z => z.testBit i) h
    simp only [Nat.testBit_and, Nat.testBit_xor, Nat.zero_testBit, hi, mk_ones i hi32, Bool.true_and] at h2
    cases q : s.testBit i with
    | true => rfl
    | false => rw [q] at h2; cases h2
  · intro h
    apply Nat.eq_of_testBit_eq
    intro i
    rw [Nat.zero_testBit, Nat.testBit_and, Nat.testBit_xor]
    cases q : x.testBit i with
    | false => rfl
    | true =>
      have hi32 : i < 32 := by
        refine Classical.byContradiction (fun hn => ?_)
        rw [Nat.testBit_lt_two_pow (Nat.lt_of_lt_of_le (show x < 2 ^ 32 from hx) (Nat.pow_le_pow_right (by omega) (by omega)))] at q
        cases q
      rw [h i q, mk_ones i hi32]
      rfl
theorem bm_spec {R s : Nat} {n : Int} : ∀ X, X ≤ 4294967296 → (bm w R s n X = none ∧ ∀ x, x < X → ¬ fea w R s n x) ∨ (∃ y, bm w R s n X = some y ∧ y < X ∧ fea w R s n y ∧ ∀ x, x < X → fea w R s n x → bS one y R ≤ bS one x R ∧ (bS one x R = bS one y R → y ≤ x))
  | 0, _ => Or.inl ⟨rfl, fun x h => absurd h (Nat.not_lt_zero _)⟩
  | X + 1, hX => by
    have ef : ((X &&& (s ^^^ 4294967295)) = 0 ∧ n ≤ bS w X R) ↔ fea w R s n X := by rw [sbs_iff (by omega)]; exact Iff.rfl
    have e : bm w R s n (X + 1) = if (X &&& (s ^^^ 4294967295)) = 0 ∧ n ≤ bS w X R then (match bm w R s n X with
      | none => some X
      | some y => if bS one y R ≤ bS one X R then some y else some X) else bm w R s n X := rfl
    rw [e]
    by_cases c : (X &&& (s ^^^ 4294967295)) = 0 ∧ n ≤ bS w X R
    · rw [if_pos c]
      have cf := ef.mp c
      right
      rcases bm_spec X (by omega) with ⟨h1, h2⟩ | ⟨y, h1, h2, h3, h4⟩
      · rw [h1]
        refine ⟨X, rfl, by omega, cf, fun x hx hf => ?_⟩
        by_cases z : x = X
        · rw [z]; exact ⟨Nat.le_refl _, fun _ => Nat.le_refl _⟩
        · exact absurd hf (h2 x (by omega))
      · rw [h1]
        show ∃ y', (if bS one y R ≤ bS one X R then some y else some X) = some y' ∧ _
        by_cases d : bS one y R ≤ bS one X R
        · rw [if_pos d]
          refine ⟨y, rfl, by omega, h3, fun x hx hf => ?_⟩
          by_cases z : x = X
          · rw [z]; exact ⟨d, fun _ => by omega⟩
          · exact h4 x (by omega) hf
        · rw [if_neg d]
          refine ⟨X, rfl, by omega, cf, fun x hx hf => ?_⟩
          by_cases z : x = X
          · rw [z]; exact ⟨Nat.le_refl _, fun _ => Nat.le_refl _⟩
          · have := (h4 x (by omega) hf).1
            exact ⟨by omega, fun _ => by omega⟩
    · rw [if_neg c]
      have cf : ¬ fea w R s n X := fun z => c (ef.mpr z)
      rcases bm_spec X (by omega) with ⟨h1, h2⟩ | ⟨y, h1, h2, h3, h4⟩
      · refine Or.inl ⟨h1, fun x hx => ?_⟩
        by_cases z : x = X
        · rw [z]; exact cf
        · exact h2 x (by omega)
      · refine Or.inr ⟨y, h1, by omega, h3, fun x hx hf => ?_⟩
        by_cases z : x = X
        · rw [z] at hf; exact absurd hf cf
        · exact h4 x (by omega) hf
/-- both ways find the same set -/
theorem few_same {R s : Nat} {n : Int} (hR : R ≤ 12) (hs : s < 2 ^ R) (hn : n ≤ bS w s R) : bm w R s n (2 ^ R) = some (gr w R R (ft w R s n R 0) s n) := by
  have h12 : 2 ^ R ≤ 2 ^ 12 := Nat.pow_le_pow_right (by omega) hR
  have hfs : fea w R s n s := ⟨fun i h => h, hn⟩
  obtain ⟨f1, f2, f3⟩ := ft_spec (w := w) (R := R) (L := s) (n := n) R 0 (by omega) (fun j hj => absurd hj (Nat.not_lt_zero _))
  generalize ft w R s n R 0 = M at *
  have hM : n ≤ hv w R M s := by
    rcases f3 with q | q
    · rw [q, hv_iff R s n hs]
      exact ⟨s, hfs, bS_le _ _⟩
    · exact q
  obtain ⟨g1, g2, g3⟩ := gr_spec (w := w) (R := R) R M s n hs (Nat.le_refl _) ((hv_iff M s n hs).mp hM)
  generalize gr w R R M s n = B at *
  have low : ∀ t, fea w R s n t → M ≤ bS one t R := fun t ht => by
    refine Classical.byContradiction (fun hlt => ?_)
    exact f2 (bS one t R) (by omega) ((hv_iff _ s n hs).mpr ⟨t, ht, Nat.le_refl _⟩)
  rcases bm_spec (w := w) (R := R) (s := s) (n := n) (2 ^ R) (by omega) with ⟨h1, h2⟩ | ⟨y, h1, h2, h3, h4⟩
  · exact absurd hfs (h2 s hs)
  · rw [h1]
    have a1 := h4 B (sbs_lt g1.1 hs) g1
    have a2 := low B g1
    have a3 := low y h3
    have a4 := g3 y h3 (by omega)
    have a5 := a1.2 (by omega)
    have : y = B := by omega
    rw [this]
end FEW2
