/-! ===== the class splits the text into tokens ===== -/
def wdx (c : Nat) : Nat → Nat → Nat
  | 0, k => k
  | d + 1, k => if c = WC k then k else wdx c d (k + 1)
def wd (c : Nat) : Nat := wdx c 17 0
theorem wdx_spec (c : Nat) : ∀ d k, k + d = 17 → k ≤ wdx c d k ∧ wdx c d k ≤ 17 ∧ (wdx c d k < 17 → c = WC (wdx c d k)) ∧ ∀ j, k ≤ j → j < wdx c d k → c ≠ WC j
  | 0, k, h => ⟨Nat.le_refl _, by show k ≤ 17; omega, fun q => by have : k < 17 := q; omega, fun j h1 h2 => absurd h2 (Nat.not_lt_of_le h1)⟩
  | d + 1, k, h => by
    obtain ⟨a, b, e, f⟩ := wdx_spec c d (k + 1) (by omega)
    show k ≤ (if c = WC k then k else wdx c d (k + 1)) ∧ (if c = WC k then k else wdx c d (k + 1)) ≤ 17 ∧ ((if c = WC k then k else wdx c d (k + 1)) < 17 → c = WC (if c = WC k then k else wdx c d (k + 1))) ∧ ∀ j, k ≤ j → j < (if c = WC k then k else wdx c d (k + 1)) → c ≠ WC j
    by_cases q : c = WC k
    · rw [if_pos q]
      exact ⟨Nat.le_refl _, by omega, fun _ => q, fun j h1 h2 => by omega⟩
    · rw [if_neg q]
      refine ⟨by omega, b, e, fun j h1 h2 => ?_⟩
      by_cases z : j = k
      · rw [z]; exact q
      · exact f j (by omega) h2
theorem wd_iff {c k : Nat} (hk : k < 17) : wd c = k ↔ c = WC k := by
  obtain ⟨-, b, e, f⟩ := wdx_spec c 17 0 rfl
  constructor
  · intro h
    rw [← h]
    exact e (by show wd c < 17; omega)
  · intro h
    refine Classical.byContradiction (fun hne => ?_)
    rcases (by omega : wd c < k ∨ k < wd c) with q | q
    · have := e (by show wd c < 17; omega)
      exact hne (WC_inj _ (by show wd c < 17; omega) _ hk (this.symm.trans h))
    · exact f k (Nat.zero_le _) q h
theorem wd_le (c : Nat) : wd c ≤ 17 := (wdx_spec c 17 0 rfl).2.1
def nmN (b : Nat → Nat) : Nat → Nat
  | 0 => 0
  | k + 1 => nmN b k * 10 + (b k - 48)
section SP
variable (t : Nat → Nat) (n : Nat)
def Kt (p : Nat) : Nat := if p = n then 4 else if 6 < en t n p - p then 0 else if isL (t p) then 1 else if isF (t p) then 2 else if isG (t p) then 3 else 0
def Vt (p : Nat) : Int32 := if p = n then 0 else if 6 < en t n p - p then 0 else if isL (t p) then nI (wd (cd (fun j => t (p + j)) (en t n p - p))) else if isF (t p) then nI (nmN (fun j => t (p + j)) (en t n p - p)) else sb (t p)
def ps : Nat → Nat
  | 0 => sk t n 0
  | k + 1 => if ps k = n then n else sk t n (en t n (ps k))
def ca (k p : Nat) (τ : aSt) : Prop := gI τ 6 k = nI (Kt t n p) ∧ gI τ 7 k = Vt t n p ∧ gI τ 8 k = nI p
/-- the text in the class's cells -/
def tx (τ : aSt) : Prop := n ≤ 600 ∧ (∀ i, i < n → t i < 256) ∧ gI τ 5 3 = nI n ∧ ∀ i, i < n → gI τ 9 i = sb (t i)
end SP
def cSp (a k : Nat) : Prop := (6 ≤ a ∧ a ≤ 8) ∨ (a = 5 ∧ k = 5)
section SP2
variable {t : Nat → Nat} {n : Nat} {τ : aSt}
theorem tx.fr {τ' : aSt} (h : tx t n τ) (f : Fr cSp τ τ') : tx t n τ' := ⟨h.1, h.2.1, by rw [f.2.1 5 3 (by unfold cSp; omega)]; exact h.2.2.1, fun i hi => by rw [f.2.1 9 i (by unfold cSp; omega)]; exact h.2.2.2 i hi⟩
theorem s_end78 (i e : Nat) (hi : i < e) (he : e < 10000) : f_X10_endOf_78 (nI i) (nI e) τ = some (nI e, τ) := by
  unfold f_X10_endOf_78
  rw [nI_1]
  by_cases c : i + 1 < e
  · rw [if_pos ((nI_ltI (by omega) (by omega)).mpr c)]
  · rw [if_neg (fun q => c ((nI_ltI (by omega) (by omega)).mp q)), show i + 1 = e by omega]
theorem s_end40 (h : tx t n τ) {i : Nat} (hi : i < n) (hF : isF (t i) = true) : ∀ (f e : Nat), i ≤ e → (i < e ∨ isF (t e) = true) → e ≤ n → n < e + f → f_X10_endOf_40 f (nI i) (nI e) τ = some (nI (ru t n isF e), τ) := by
  obtain ⟨h1, h2, h3, h4⟩ := h
  intro f
  induction f with
  | zero => intro e q1 q2 q3 q4; omega
  | succ f ih =>
    intro e q1 q2 q3 q4
    show f_X10_endOf_40_b (f_X10_endOf_40 f) (nI i) (nI e) τ = _
    unfold f_X10_endOf_40_b
    rw [h3]
    by_cases z : e = n
    · rw [z] at q1 q2 ⊢
      rw [if_pos (Int32.le_refl _), ru_n, s_end78 i n hi (by omega)]
    · rw [if_neg (fun q => z (by rw [nI_leI (by omega) (by omega)] at q; omega)), if_pos (ix_in (by omega) (by omega)), ix_cl (by omega), h4 i hi, s_figC (h2 i hi), Option.bind_some, hF]
      simp only [bI_0]
      rw [if_neg (by decide), if_pos (ix_in (by omega) (by omega)), ix_cl (by omega), h4 e (by omega), s_figC (h2 e (by omega)), Option.bind_some]
      simp only [bI_0]
      rw [ru_s (show e < n by omega)]
      by_cases c : isF (t e) = true
      · rw [if_neg (by rw [c]; decide), if_pos c, nI_1]
        exact ih (e + 1) (by omega) (Or.inl (by omega)) (by omega) (by omega)
      · have c' : isF (t e) = false := by
          cases q : isF (t e) with
          | true => exact absurd q c
          | false => rfl
        rw [if_pos c', if_neg c]
        rcases q2 with q2 | q2
        · exact s_end78 i e q2 (by omega)
        · exact absurd q2 c
theorem s_end40n (h : tx t n τ) {i : Nat} (hi : i < n) (hF : isF (t i) = false) {e : Nat} (he : i ≤ e) (hen : e ≤ n) : f_X10_endOf_40 aN (nI i) (nI e) τ = f_X10_endOf_78 (nI i) (nI e) τ := by
  obtain ⟨h1, h2, h3, h4⟩ := h
  show f_X10_endOf_40_b (f_X10_endOf_40 999999) (nI i) (nI e) τ = _
  unfold f_X10_endOf_40_b
  rw [h3]
  by_cases z : e = n
  · rw [if_pos ((nI_leI (by omega) (by omega)).mpr (by omega))]
  · rw [if_neg (fun q => z (by rw [nI_leI (by omega) (by omega)] at q; omega)), if_pos (ix_in (by omega) (by omega)), ix_cl (by omega), h4 i hi, s_figC (h2 i hi), Option.bind_some, hF]
    simp only [bI_0]
    rw [if_pos trivial]
theorem s_end2 (h : tx t n τ) {i : Nat} (hi : i < n) (hL : isL (t i) = true) : ∀ (f e : Nat), i ≤ e → (i < e ∨ isL (t e) = true) → e ≤ n → n < e + f → f_X10_endOf_2 f (nI i) (nI e) τ = some (nI (ru t n isL e), τ) := by
  have h0 := h
  obtain ⟨h1, h2, h3, h4⟩ := h
  intro f
  induction f with
  | zero => intro e q1 q2 q3 q4; omega
  | succ f ih =>
    intro e q1 q2 q3 q4
    show f_X10_endOf_2_b (f_X10_endOf_2 f) (nI i) (nI e) τ = _
    unfold f_X10_endOf_2_b
    rw [h3]
    by_cases z : e = n
    · rw [z] at q1 q2 ⊢
      rw [if_pos (Int32.le_refl _), ru_n, s_end40n h0 hi (isLF hL) (by omega) (Nat.le_refl _), s_end78 i n hi (by omega)]
    · rw [if_neg (fun q => z (by rw [nI_leI (by omega) (by omega)] at q; omega)), if_pos (ix_in (by omega) (by omega)), ix_cl (by omega), h4 i hi, s_letC (h2 i hi), Option.bind_some, hL]
      simp only [bI_0]
      rw [if_neg (by decide), if_pos (ix_in (by omega) (by omega)), ix_cl (by omega), h4 e (by omega), s_letC (h2 e (by omega)), Option.bind_some]
      simp only [bI_0]
      rw [ru_s (show e < n by omega)]
      by_cases c : isL (t e) = true
      · rw [if_neg (by rw [c]; decide), if_pos c, nI_1]
        exact ih (e + 1) (by omega) (Or.inl (by omega)) (by omega) (by omega)
      · have c' : isL (t e) = false := by
          cases q : isL (t e) with
          | true => exact absurd q c
          | false => rfl
        rw [if_pos c', if_neg c, s_end40n h0 hi (isLF hL) (by omega) (by omega)]
        rcases q2 with q2 | q2
        · exact s_end78 i e q2 (by omega)
        · exact absurd q2 c
theorem s_endOf (h : tx t n τ) {i : Nat} (hi : i < n) : f_X10_endOf (nI i) τ = some (nI (en t n i), τ) := by
  have h0 := h
  obtain ⟨h1, h2, h3, h4⟩ := h
  unfold f_X10_endOf en
  by_cases hL : isL (t i) = true
  · rw [if_pos hL]
    exact s_end2 h0 hi hL aN i (Nat.le_refl _) (Or.inr hL) (by omega) (by show n < i + 1000000; omega)
  · have hL' : isL (t i) = false := by
      cases q : isL (t i) with
      | true => exact absurd q hL
      | false => rfl
    rw [if_neg hL]
    have e2 : f_X10_endOf_2 aN (nI i) (nI i) τ = f_X10_endOf_40 aN (nI i) (nI i) τ := by
      show f_X10_endOf_2_b (f_X10_endOf_2 999999) (nI i) (nI i) τ = _
      unfold f_X10_endOf_2_b
      have h4' : gI τ 9 (nI i).toNatClampNeg = sb (t i) := by rw [ix_cl (by omega)]; exact h4 i hi
      rw [h3, if_neg (fun q => by rw [nI_leI (by omega) (by omega)] at q; omega), if_pos (ix_in (by omega) (by omega)), h4', s_letC (h2 i hi), Option.bind_some, hL']
      simp only [bI_0]
      rw [if_pos trivial]
    rw [e2]
    by_cases hF : isF (t i) = true
    · rw [if_pos hF]
      exact s_end40 h0 hi hF aN i (Nat.le_refl _) (Or.inr hF) (by omega) (by show n < i + 1000000; omega)
    · have hF' : isF (t i) = false := by
        cases q : isF (t i) with
        | true => exact absurd q hF
        | false => rfl
      rw [if_neg hF, s_end40n h0 hi hF' (Nat.le_refl _) (by omega)]
      unfold f_X10_endOf_78
      rw [nI_1, if_neg (fun q => by rw [nI_ltI (by omega) (by omega)] at q; omega)]
theorem s_keep {m : Nat} (hm : m ≤ 600) (e5 : gI τ 5 5 = nI m) (a b c : Int32) : ∃ τ', f_X10_keep a b c τ = some ((), τ') ∧ Fr cSp τ τ' ∧ gI τ' 5 5 = nI (m + 1) ∧ gI τ' 6 m = a ∧ gI τ' 7 m = b ∧ gI τ' 8 m = c ∧ ∀ k, k < m → gI τ' 6 k = gI τ 6 k ∧ gI τ' 7 k = gI τ 7 k ∧ gI τ' 8 k = gI τ 8 k := by
  have ib : inB (nI m) 601 := ix_in (by omega) (by omega)
  have cl : (nI m).toNatClampNeg = m := ix_cl (by omega)
  have g6 : ∀ v, gI (sI τ 6 m v) 5 5 = nI m := fun v => by rw [gI_other (Or.inl (by omega))]; exact e5
  have g7 : ∀ v w, gI (sI (sI τ 6 m v) 7 m w) 5 5 = nI m := fun v w => by rw [gI_other (Or.inl (by omega))]; exact g6 v
  have g8 : ∀ v w z, gI (sI (sI (sI τ 6 m v) 7 m w) 8 m z) 5 5 = nI m := fun v w z => by rw [gI_other (Or.inl (by omega))]; exact g7 v w
  refine ⟨sI (sI (sI (sI τ 6 m a) 7 m b) 8 m c) 5 5 (nI (m + 1)), ?_, ?_, gI_same _ _ _ _, ?_, ?_, ?_, fun k hk => ⟨?_, ?_, ?_⟩⟩
  · unfold f_X10_keep f_X10_keep_40 f_X10_keep_50
    rw [e5, if_neg (show ¬ (600 : Int32) < nI m by rw [show (600 : Int32) = nI 600 from rfl, nI_ltI (by omega) (by omega)]; omega), if_pos ib]
    simp only [cl, g6, g7, g8, if_pos ib, nI_1]
  · refine Fr.sI (Fr.sI (Fr.sI (Fr.sI Fr.rf ?_) ?_) ?_) ?_ <;> simp [cSp]
  · rw [gI_other (Or.inl (by omega)), gI_other (Or.inl (by omega)), gI_other (Or.inl (by omega)), gI_same]
  · rw [gI_other (Or.inl (by omega)), gI_other (Or.inl (by omega)), gI_same]
  · rw [gI_other (Or.inl (by omega)), gI_same]
  · rw [gI_other (Or.inl (by omega)), gI_other (Or.inl (by omega)), gI_other (Or.inl (by omega)), gI_other (Or.inr (by omega))]
  · rw [gI_other (Or.inl (by omega)), gI_other (Or.inl (by omega)), gI_other (Or.inr (by omega)), gI_other (Or.inl (by omega))]
  · rw [gI_other (Or.inl (by omega)), gI_other (Or.inr (by omega)), gI_other (Or.inl (by omega)), gI_other (Or.inl (by omega))]
theorem s_spelt (h : tx t n τ) {k p len : Nat} (hk : k < 17) (h1 : 1 ≤ len) (h6 : len ≤ 6) (hp : p + len ≤ n) (hb : ∀ j, j < len → 97 ≤ t (p + j) ∧ t (p + j) ≤ 122) : f_X10_isSpelt (nI (7 * k)) (nI p) (nI len) τ = some (bI (decide (cd (fun j => t (p + j)) len = WC k)), τ) := by
  obtain ⟨q1, q2, q3, q4⟩ := h
  have iff := spl_iff hk (b := fun j => t (p + j)) h1 h6 hb
  have ti : ∀ j, j ≤ 6 → aTxB.getD (nI (7 * k + j)).toNatClampNeg 0 = nI (txN (7 * k + j)) ∧ txN (7 * k + j) < 128 := fun j hj => by
    rw [ix_cl (by omega)]
    exact tx_Int (7 * k + j) (by omega)
  have loop : ∀ (f j : Nat), j ≤ len → len < j + f → (∀ i, i < j → txN (7 * k + i) = t (p + i)) → (f_X10_isSpelt_29 f (nI (7 * k)) (nI p) (nI len) (nI j) τ = some (1, τ) ∧ ∀ i, i < len → txN (7 * k + i) = t (p + i)) ∨ (f_X10_isSpelt_29 f (nI (7 * k)) (nI p) (nI len) (nI j) τ = some (0, τ) ∧ ¬ ∀ i, i < len → txN (7 * k + i) = t (p + i)) := by
    intro f
    induction f with
    | zero => intro j z1 z2; omega
    | succ f ih =>
      intro j z1 z2 z3
      show (f_X10_isSpelt_29_b (f_X10_isSpelt_29 f) (nI (7 * k)) (nI p) (nI len) (nI j) τ = _ ∧ _) ∨ (f_X10_isSpelt_29_b (f_X10_isSpelt_29 f) (nI (7 * k)) (nI p) (nI len) (nI j) τ = _ ∧ _)
      unfold f_X10_isSpelt_29_b f_X10_isSpelt_75
      by_cases e : j = len
      · rw [e, if_pos (Int32.le_refl _)]
        rw [e] at z3
        exact Or.inl ⟨rfl, z3⟩
      · have hj : j < len := by omega
        have hb1 := hb j hj
        rw [if_neg (fun q => by rw [nI_leI (by omega) (by omega)] at q; omega), nI_add, nI_add, q3, if_neg (fun q => by rw [nI_leI (by omega) (by omega)] at q; omega), if_pos (ix_in (by omega) (by omega)), if_pos (ix_in (by omega) (by omega)), (ti j (by omega)).1, ix_cl (n := p + j) (by omega), q4 (p + j) (by omega), sb_lo (by omega), nI_1]
        by_cases c : txN (7 * k + j) = t (p + j)
        · rw [if_pos (by rw [c])]
          refine ih (j + 1) (by omega) (by omega) (fun i hi => ?_)
          by_cases z : i = j
          · rw [z]; exact c
          · exact z3 i (by omega)
        · have := (ti j (by omega)).2
          rw [if_neg (fun z => c (nI_inj (by omega) (by omega) z))]
          exact Or.inr ⟨rfl, fun z => c (z j hj)⟩
  unfold f_X10_isSpelt f_X10_isSpelt_24
  rw [nI_add, if_neg (show ¬ (119 : Int32) ≤ nI (7 * k + len) by rw [show (119 : Int32) = nI 119 from rfl, nI_leI (by omega) (by omega)]; omega), if_pos (ix_in (by omega) (by omega)), (ti len h6).1]
  have tl := (ti len h6).2
  by_cases c : txN (7 * k + len) = 32
  · rw [if_pos (by rw [c]; rfl)]
    rcases loop aN 0 (by omega) (by show len < 0 + 1000000; omega) (fun i hi => absurd hi (Nat.not_lt_zero _)) with ⟨a1, a2⟩ | ⟨a1, a2⟩
    · rw [show f_X10_isSpelt_29 aN (nI (7 * k)) (nI p) (nI len) 0 τ = _ from a1, decide_eq_true (iff.mp ⟨c, a2⟩)]
      rfl
    · rw [show f_X10_isSpelt_29 aN (nI (7 * k)) (nI p) (nI len) 0 τ = _ from a1, decide_eq_false (fun z => a2 (iff.mpr z).2)]
      rfl
  · rw [if_neg (show ¬ nI (txN (7 * k + len)) = 32 from fun z => c (nI_inj (by omega) (by omega) (show nI _ = nI 32 from z))), decide_eq_false (fun z => c (iff.mpr z).1)]
    rfl
theorem s_wordAt (h : tx t n τ) {p len : Nat} (h1 : 1 ≤ len) (h6 : len ≤ 6) (hp : p + len ≤ n) (hb : ∀ j, j < len → 97 ≤ t (p + j) ∧ t (p + j) ≤ 122) : f_X10_wordAt (nI p) (nI (p + len)) τ = some (nI (wd (cd (fun j => t (p + j)) len)), τ) := by
  have hn := h.1
  have loop : ∀ (d k f : Nat), k + d = 17 → d < f → f_X10_wordAt_2 f (nI p) (nI (p + len)) (nI k) τ = some (nI (wdx (cd (fun j => t (p + j)) len) d k), τ) := by
    intro d
    induction d with
    | zero =>
      intro k f hk hf
      obtain ⟨f, rfl⟩ : ∃ f', f = f' + 1 := ⟨f - 1, by omega⟩
      show f_X10_wordAt_2_b (f_X10_wordAt_2 f) (nI p) (nI (p + len)) (nI k) τ = _
      unfold f_X10_wordAt_2_b
      rw [show k = 17 by omega, if_pos (show (17 : Int32) ≤ nI 17 from Int32.le_refl _)]
      rfl
    | succ d ih =>
      intro k f hk hf
      obtain ⟨f, rfl⟩ : ∃ f', f = f' + 1 := ⟨f - 1, by omega⟩
      show f_X10_wordAt_2_b (f_X10_wordAt_2 f) (nI p) (nI (p + len)) (nI k) τ = some (nI (if cd (fun j => t (p + j)) len = WC k then k else wdx (cd (fun j => t (p + j)) len) d (k + 1)), τ)
      unfold f_X10_wordAt_2_b
      rw [if_neg (show ¬ (17 : Int32) ≤ nI k by rw [show (17 : Int32) = nI 17 from rfl, nI_leI (by omega) (by omega)]; omega), show (7 : Int32) = nI 7 from rfl, pk_mul, Nat.mul_comm, pk_sub (by omega), Nat.add_sub_cancel_left, s_spelt h (by omega) h1 h6 hp hb, Option.bind_some]
      simp only [bI_0, decide_eq_false_iff_not]
      by_cases c : cd (fun j => t (p + j)) len = WC k
      · rw [if_neg (not_not_intro c), if_pos c]
      · rw [if_pos c, if_neg c, nI_1]
        exact ih (k + 1) f (by omega) (by omega)
  exact loop 17 0 aN rfl (by show 17 < 1000000; omega)
theorem s_numAt (h : tx t n τ) {p len : Nat} (hp : p + len ≤ n) (hb : ∀ j, j < len → 48 ≤ t (p + j) ∧ t (p + j) ≤ 57) : f_X10_numberAt (nI p) (nI (p + len)) τ = some (nI (nmN (fun j => t (p + j)) len), τ) := by
  obtain ⟨q1, q2, q3, q4⟩ := h
  have loop : ∀ (f j : Nat), j ≤ len → len < j + f → f_X10_numberAt_5 f (nI (p + len)) (nI (nmN (fun j => t (p + j)) j)) (nI (p + j)) τ = some (nI (nmN (fun j => t (p + j)) len), τ) := by
    intro f
    induction f with
    | zero => intro j z1 z2; omega
    | succ f ih =>
      intro j z1 z2
      show f_X10_numberAt_5_b (f_X10_numberAt_5 f) (nI (p + len)) (nI (nmN (fun j => t (p + j)) j)) (nI (p + j)) τ = _
      unfold f_X10_numberAt_5_b f_X10_numberAt_42
      by_cases e : j = len
      · rw [e, if_pos (Int32.le_refl _)]
      · have hb1 := hb j (by omega)
        rw [if_neg (fun q => by rw [nI_leI (by omega) (by omega)] at q; omega), q3, if_neg (fun q => by rw [nI_leI (by omega) (by omega)] at q; omega), if_pos (ix_in (by omega) (by omega)), ix_cl (by omega), q4 (p + j) (by omega), sb_lo (by omega), show (10 : Int32) = nI 10 from rfl, show (48 : Int32) = nI 48 from rfl, pk_mul, nI_add, pk_sub (by omega), nI_1, Nat.add_assoc p j 1]
        have := ih (j + 1) (by omega) (by omega)
        rw [show nmN (fun j => t (p + j)) (j + 1) = nmN (fun j => t (p + j)) j * 10 + (t (p + j) - 48) from rfl] at this
        rw [show nmN (fun j => t (p + j)) j * 10 + t (p + j) - 48 = nmN (fun j => t (p + j)) j * 10 + (t (p + j) - 48) by omega]
        exact this
  exact loop aN 0 (by omega) (by show len < 0 + 1000000; omega)
end SP2
