/-! ===== the text: bytes, runs, words ===== -/
def isL (c : Nat) : Bool := decide (97 ≤ c) && decide (c ≤ 122)
def isF (c : Nat) : Bool := decide (48 ≤ c) && decide (c ≤ 57)
def isP (c : Nat) : Bool := decide (c = 32) || decide (c = 10)
def isG (c : Nat) : Bool := decide (c = 59) || decide (c = 60) || decide (c = 62) || decide (c = 61)
/-- as the class has a byte -/
def sb (c : Nat) : Int32 := (nI c).toInt8.toInt32
theorem sb_all : ∀ c, c < 256 → (c < 128 → sb c = nI c) ∧ (128 ≤ c → sb c < 0) := by decide +kernel
theorem sb_lo {c : Nat} (h : c < 128) : sb c = nI c := (sb_all c (by omega)).1 h
theorem sb_hi {c : Nat} (h : c < 256) (h2 : 128 ≤ c) : (sb c).toInt < 0 := by
  have := (sb_all c h).2 h2
  rw [pi_lt] at this
  exact this
theorem sb_eq {c k : Nat} (h : c < 256) (hk : k < 128) : sb c = nI k ↔ c = k := by
  by_cases q : c < 128
  · rw [sb_lo q]
    exact ⟨fun z => nI_inj (by omega) (by omega) z, fun z => by rw [z]⟩
  · have := sb_hi h (by omega)
    constructor
    · intro z
      rw [z, pi_nI (by omega)] at this
      omega
    · omega
theorem s_letC {c : Nat} (h : c < 256) (τ : aSt) : f_X10_isLetter (sb c) τ = some (bI (isL c), τ) := by
  unfold f_X10_isLetter f_X10_isLetter_16 f_X10_isLetter_17
  rw [if_pos v0_ok, if_pos v1_ok]
  have e97 : (97 : Int32).toInt = 97 := rfl
  have e122 : (122 : Int32).toInt = 122 := rfl
  have hv : (sb c).toInt < 0 ∨ (sb c).toInt = c := by
    by_cases q : c < 128
    · rw [sb_lo q, pi_nI (by omega)]; exact Or.inr rfl
    · exact Or.inl (sb_hi h (by omega))
  have hn : (sb c).toInt < 0 → 128 ≤ c := fun q => by
    refine Classical.byContradiction (fun z => ?_)
    rw [sb_lo (by omega), pi_nI (by omega)] at q
    omega
  unfold isL
  by_cases c1 : sb c < 97
  · rw [if_pos c1]
    rw [pi_lt, e97] at c1
    have : ¬ (97 ≤ c ∧ c ≤ 122) := by omega
    rw [← Bool.decide_and, decide_eq_false this]
    rfl
  · rw [if_neg c1]
    rw [pi_lt, e97] at c1
    by_cases c2 : 122 < sb c
    · rw [if_pos c2]
      rw [pi_lt, e122] at c2
      have : ¬ (97 ≤ c ∧ c ≤ 122) := by omega
      rw [← Bool.decide_and, decide_eq_false this]
      rfl
    · rw [if_neg c2]
      rw [pi_lt, e122] at c2
      have : 97 ≤ c ∧ c ≤ 122 := by omega
      rw [← Bool.decide_and, decide_eq_true this]
      rfl
theorem s_figC {c : Nat} (h : c < 256) (τ : aSt) : f_X10_isFigure (sb c) τ = some (bI (isF c), τ) := by
  unfold f_X10_isFigure f_X10_isFigure_16 f_X10_isFigure_17
  rw [if_pos v0_ok, if_pos v1_ok]
  have e97 : (48 : Int32).toInt = 48 := rfl
  have e122 : (57 : Int32).toInt = 57 := rfl
  have hv : (sb c).toInt < 0 ∨ (sb c).toInt = c := by
    by_cases q : c < 128
    · rw [sb_lo q, pi_nI (by omega)]; exact Or.inr rfl
    · exact Or.inl (sb_hi h (by omega))
  have hn : (sb c).toInt < 0 → 128 ≤ c := fun q => by
    refine Classical.byContradiction (fun z => ?_)
    rw [sb_lo (by omega), pi_nI (by omega)] at q
    omega
  unfold isF
  by_cases c1 : sb c < 48
  · rw [if_pos c1]
    rw [pi_lt, e97] at c1
    have : ¬ (48 ≤ c ∧ c ≤ 57) := by omega
    rw [← Bool.decide_and, decide_eq_false this]
    rfl
  · rw [if_neg c1]
    rw [pi_lt, e97] at c1
    by_cases c2 : 57 < sb c
    · rw [if_pos c2]
      rw [pi_lt, e122] at c2
      have : ¬ (48 ≤ c ∧ c ≤ 57) := by omega
      rw [← Bool.decide_and, decide_eq_false this]
      rfl
    · rw [if_neg c2]
      rw [pi_lt, e122] at c2
      have : 48 ≤ c ∧ c ≤ 57 := by omega
      rw [← Bool.decide_and, decide_eq_true this]
      rfl
/-- the reference's, of a byte or of none -/
theorem s_letM {c : Nat} (h : c < 256) (τ : aSt) : f_X12_isLetter (nI c) τ = some (bI (isL c), τ) := by
  unfold f_X12_isLetter f_X12_isLetter_16 f_X12_isLetter_17
  rw [if_pos v0_ok, if_pos v1_ok, show (97 : Int32) = nI 97 from rfl, show (122 : Int32) = nI 122 from rfl]
  unfold isL
  by_cases c1 : c < 97
  · rw [if_pos ((nI_ltI (by omega) (by omega)).mpr c1), ← Bool.decide_and, decide_eq_false (by omega)]
    rfl
  · rw [if_neg (fun q => c1 ((nI_ltI (by omega) (by omega)).mp q))]
    by_cases c2 : 122 < c
    · rw [if_pos ((nI_ltI (by omega) (by omega)).mpr c2), ← Bool.decide_and, decide_eq_false (by omega)]
      rfl
    · rw [if_neg (fun q => c2 ((nI_ltI (by omega) (by omega)).mp q)), ← Bool.decide_and, decide_eq_true (by omega)]
      rfl
theorem s_figM {c : Nat} (h : c < 256) (τ : aSt) : f_X12_isFigure (nI c) τ = some (bI (isF c), τ) := by
  unfold f_X12_isFigure f_X12_isFigure_16 f_X12_isFigure_17
  rw [if_pos v0_ok, if_pos v1_ok, show (48 : Int32) = nI 48 from rfl, show (57 : Int32) = nI 57 from rfl]
  unfold isF
  by_cases c1 : c < 48
  · rw [if_pos ((nI_ltI (by omega) (by omega)).mpr c1), ← Bool.decide_and, decide_eq_false (by omega)]
    rfl
  · rw [if_neg (fun q => c1 ((nI_ltI (by omega) (by omega)).mp q))]
    by_cases c2 : 57 < c
    · rw [if_pos ((nI_ltI (by omega) (by omega)).mpr c2), ← Bool.decide_and, decide_eq_false (by omega)]
      rfl
    · rw [if_neg (fun q => c2 ((nI_ltI (by omega) (by omega)).mp q)), ← Bool.decide_and, decide_eq_true (by omega)]
      rfl
theorem s_letN (τ : aSt) : f_X12_isLetter (-1000000) τ = some (0, τ) := by
  unfold f_X12_isLetter f_X12_isLetter_16 f_X12_isLetter_17
  rw [if_pos (by decide), if_pos v0_ok]
theorem s_figN (τ : aSt) : f_X12_isFigure (-1000000) τ = some (0, τ) := by
  unfold f_X12_isFigure f_X12_isFigure_16 f_X12_isFigure_17
  rw [if_pos (by decide), if_pos v0_ok]
section TX
variable (t : Nat → Nat) (n : Nat)
/-- the end of a run -/
def rn (P : Nat → Bool) : Nat → Nat → Nat
  | 0, i => i
  | d + 1, i => if P (t i) then rn P d (i + 1) else i
def ru (P : Nat → Bool) (i : Nat) : Nat := rn t P (n - i) i
def sk (i : Nat) : Nat := ru t n isP i
def en (i : Nat) : Nat := if isL (t i) then ru t n isL i else if isF (t i) then ru t n isF i else i + 1
end TX
section TX2
variable {t : Nat → Nat} {n : Nat}
theorem rn_spec {P : Nat → Bool} : ∀ d i, i ≤ rn t P d i ∧ rn t P d i ≤ i + d ∧ (rn t P d i < i + d → P (t (rn t P d i)) = false) ∧ ∀ j, i ≤ j → j < rn t P d i → P (t j) = true
  | 0, i => ⟨Nat.le_refl _, Nat.le_refl _, fun h => absurd h (Nat.lt_irrefl _), fun j h1 h2 => absurd h2 (Nat.not_lt_of_le h1)⟩
  | d + 1, i => by
    show i ≤ (if P (t i) then rn t P d (i + 1) else i) ∧ (if P (t i) then rn t P d (i + 1) else i) ≤ i + (d + 1) ∧ ((if P (t i) then rn t P d (i + 1) else i) < i + (d + 1) → P (t (if P (t i) then rn t P d (i + 1) else i)) = false) ∧ ∀ j, i ≤ j → j < (if P (t i) then rn t P d (i + 1) else i) → P (t j) = true
    obtain ⟨a, b, c, e⟩ := rn_spec (P := P) d (i + 1)
    by_cases h : P (t i) = true
    · rw [if_pos h]
      refine ⟨by omega, by omega, fun q => c (by omega), fun j h1 h2 => ?_⟩
      by_cases z : j = i
      · rw [z]; exact h
      · exact e j (by omega) h2
    · rw [if_neg h]
      refine ⟨Nat.le_refl _, by omega, fun _ => ?_, fun j h1 h2 => by omega⟩
      cases q : P (t i) with
      | true => exact absurd q h
      | false => rfl
theorem ru_s {P : Nat → Bool} {i : Nat} (h : i < n) : ru t n P i = if P (t i) then ru t n P (i + 1) else i := by
  unfold ru
  obtain ⟨d, e⟩ : ∃ d, n - i = d + 1 := ⟨n - i - 1, by omega⟩
  rw [e, show n - (i + 1) = d by omega]
  rfl
theorem ru_n {P : Nat → Bool} : ru t n P n = n := by
  unfold ru
  rw [Nat.sub_self]
  rfl
theorem ru_rng {P : Nat → Bool} {i : Nat} (h : i ≤ n) : i ≤ ru t n P i ∧ ru t n P i ≤ n := by
  unfold ru
  obtain ⟨a, b, -⟩ := rn_spec (t := t) (P := P) (n - i) i
  omega
theorem ru_all {P : Nat → Bool} {i j : Nat} (h : i ≤ n) (h1 : i ≤ j) (h2 : j < ru t n P i) : P (t j) = true := (rn_spec (t := t) (P := P) (n - i) i).2.2.2 j h1 h2
theorem ru_end {P : Nat → Bool} {i : Nat} (h : i ≤ n) (h2 : ru t n P i < n) : P (t (ru t n P i)) = false := (rn_spec (t := t) (P := P) (n - i) i).2.2.1 (by unfold ru at h2; omega)
theorem en_rng {i : Nat} (h : i < n) : i < en t n i ∧ en t n i ≤ n := by
  unfold en
  by_cases c : isL (t i) = true
  · rw [if_pos c, ru_s h, if_pos c]
    have := ru_rng (t := t) (P := isL) (show i + 1 ≤ n by omega)
    omega
  · rw [if_neg c]
    by_cases d : isF (t i) = true
    · rw [if_pos d, ru_s h, if_pos d]
      have := ru_rng (t := t) (P := isF) (show i + 1 ≤ n by omega)
      omega
    · rw [if_neg d]
      omega
theorem sk_rng {i : Nat} (h : i ≤ n) : i ≤ sk t n i ∧ sk t n i ≤ n := ru_rng h
theorem isLF {c : Nat} (h : isL c = true) : isF c = false := by
  unfold isL at h
  unfold isF
  simp only [Bool.and_eq_true, decide_eq_true_iff] at h
  rw [← Bool.decide_and, decide_eq_false (by omega)]
theorem isLP {c : Nat} (h : isP c = true) : isL c = false ∧ isF c = false := by
  unfold isP at h
  unfold isL isF
  simp only [Bool.or_eq_true, decide_eq_true_iff] at h
  rw [← Bool.decide_and, ← Bool.decide_and, decide_eq_false (by omega), decide_eq_false (by omega)]
  exact ⟨rfl, rfl⟩
end TX2
/-! words -/
def txN (i : Nat) : Nat := (aTxB.getD i 0).toNatClampNeg
def wl (k : Nat) : Nat := [6, 5, 4, 5, 4, 2, 3, 6, 4, 4, 5, 3, 6, 4, 5, 3, 4].getD k 0
def WC (k : Nat) : Nat := [131294707347319, 431197741433, 1819242347, 422726034283, 1920298085, 26982, 6385252, 107122649296500, 1936683636, 1752135026, 427071729268, 7566701, 123563950826867, 1936024942, 491261290863, 6709618, 1768846447].getD k 0
def cd (b : Nat → Nat) : Nat → Nat
  | 0 => 0
  | k + 1 => cd b k * 256 + b k
theorem tx_facts : ∀ k, k < 17 → 1 ≤ wl k ∧ wl k ≤ 6 ∧ txN (7 * k + wl k) = 32 ∧ (∀ j, j < wl k → 97 ≤ txN (7 * k + j) ∧ txN (7 * k + j) ≤ 122) ∧ cd (fun j => txN (7 * k + j)) (wl k) = WC k := by decide +kernel
theorem tx_Int : ∀ i, i < 119 → aTxB.getD i 0 = nI (txN i) ∧ txN i < 128 := by decide +kernel
theorem WC_inj : ∀ k, k < 17 → ∀ j, j < 17 → WC k = WC j → k = j := by decide +kernel
theorem cd_pos {b : Nat → Nat} {k : Nat} (h : 1 ≤ b k) : 1 ≤ cd b (k + 1) := by
  show 1 ≤ cd b k * 256 + b k
  omega
theorem cd_inj {b b' : Nat → Nat} : ∀ k k', (∀ j, j < k → 1 ≤ b j ∧ b j < 256) → (∀ j, j < k' → 1 ≤ b' j ∧ b' j < 256) → cd b k = cd b' k' → k = k' ∧ ∀ j, j < k → b j = b' j
  | 0, 0, _, _, _ => ⟨rfl, fun j h => absurd h (Nat.not_lt_zero _)⟩
  | 0, k' + 1, _, h2, e => by
    have := cd_pos (h2 k' (by omega)).1
    rw [← e] at this
    exact absurd this (Nat.not_succ_le_zero 0)
  | k + 1, 0, h1, _, e => by
    have := cd_pos (h1 k (by omega)).1
    rw [e] at this
    exact absurd this (Nat.not_succ_le_zero 0)
  | k + 1, k' + 1, h1, h2, e => by
    have e' : cd b k * 256 + b k = cd b' k' * 256 + b' k' := e
    have l1 := h1 k (by omega)
    have l2 := h2 k' (by omega)
    have eb : b k = b' k' := by omega
    have ec : cd b k = cd b' k' := by omega
    obtain ⟨i1, i2⟩ := cd_inj k k' (fun j hj => h1 j (by omega)) (fun j hj => h2 j (by omega)) ec
    refine ⟨by omega, fun j hj => ?_⟩
    by_cases z : j = k
    · rw [z, eb, i1]
    · exact i2 j (by omega)
/-- word k is spelt by so many bytes -/
def spl (k : Nat) (b : Nat → Nat) (len : Nat) : Prop := txN (7 * k + len) = 32 ∧ ∀ j, j < len → txN (7 * k + j) = b j
theorem spl_iff {k : Nat} (hk : k < 17) {b : Nat → Nat} {len : Nat} (h1 : 1 ≤ len) (h6 : len ≤ 6) (hb : ∀ j, j < len → 97 ≤ b j ∧ b j ≤ 122) : spl k b len ↔ cd b len = WC k := by
  obtain ⟨w1, w2, w3, w4, w5⟩ := tx_facts k hk
  constructor
  · intro ⟨a1, a2⟩
    have el : len = wl k := by
      refine Classical.byContradiction (fun hne => ?_)
      rcases (by omega : len < wl k ∨ wl k < len) with q | q
      · have := w4 len q
        omega
      · have h3 := a2 (wl k) q
        have h4 := hb (wl k) q
        omega
    rw [← w5, el]
    rw [el] at a2
    have cg : ∀ m, m ≤ wl k → cd b m = cd (fun j => txN (7 * k + j)) m := by
      intro m
      induction m with
      | zero => intro _; rfl
      | succ m ih =>
        intro hm
        show cd b m * 256 + b m = cd (fun j => txN (7 * k + j)) m * 256 + txN (7 * k + m)
        rw [ih (by omega), a2 m (by omega)]
    exact cg (wl k) (Nat.le_refl _)
  · intro e
    rw [← w5] at e
    obtain ⟨i1, i2⟩ := cd_inj len (wl k) (fun j hj => by have := hb j hj; omega) (fun j hj => by have := w4 j hj; omega) e
    refine ⟨by rw [i1]; exact w3, fun j hj => (i2 j hj).symm⟩
