/-! ===== learnt: sums over the parts of every set at once ===== -/
/-- which sets a payment's rules count for, after so many bits -/
def zz : Nat → Nat → Nat → Bool
  | 0, h, m => decide (h = m)
  | k + 1, h, m => if m.testBit k = true then zz k h m || zz k h (m ^^^ 2 ^ k) else zz k h m
theorem zz_spec : ∀ (k h m : Nat), zz k h m = true ↔ ((∀ i, i < k → h.testBit i = true → m.testBit i = true) ∧ ∀ i, k ≤ i → h.testBit i = m.testBit i)
  | 0, h, m => by
    show decide (h = m) = true ↔ _
    rw [decide_eq_true_iff]
    constructor
    · intro e
      subst e
      exact ⟨fun i hi => absurd hi (Nat.not_lt_zero _), fun _ _ => rfl⟩
    · intro ⟨_, h2⟩
      exact Nat.eq_of_testBit_eq (fun i => h2 i (Nat.zero_le _))
  | k + 1, h, m => by
    show (if m.testBit k = true then zz k h m || zz k h (m ^^^ 2 ^ k) else zz k h m) = true ↔ _
    by_cases c : m.testBit k = true
    · rw [if_pos c, Bool.or_eq_true, zz_spec k h m, zz_spec k h (m ^^^ 2 ^ k)]
      constructor
      · rintro (⟨a, b⟩ | ⟨a, b⟩)
        · refine ⟨fun i hi hb => ?_, fun i hi => b i (by omega)⟩
          by_cases e : i = k
          · rw [e]; exact c
          · exact a i (by omega) hb
        · refine ⟨fun i hi hb => ?_, fun i hi => ?_⟩
          · by_cases e : i = k
            · rw [e]; exact c
            · have := a i (by omega) hb
              rw [tx_other e] at this
              exact this
          · rw [b i (by omega), tx_other (by omega)]
      · intro ⟨a, b⟩
        cases q : h.testBit k with
        | true =>
          refine Or.inl ⟨fun i hi hb => a i (by omega) hb, fun i hi => ?_⟩
          by_cases e : i = k
          · rw [e, q, c]
          · exact b i (by omega)
        | false =>
          refine Or.inr ⟨fun i hi hb => ?_, fun i hi => ?_⟩
          · rw [tx_other (by omega)]
            exact a i (by omega) hb
          · by_cases e : i = k
            · rw [e, q, tx_same c]
            · rw [tx_other e]
              exact b i (by omega)
    · rw [if_neg c, zz_spec k h m]
      have c' : m.testBit k = false := by
        cases q : m.testBit k with
        | true => exact absurd q c
        | false => rfl
      constructor
      · intro ⟨a, b⟩
        refine ⟨fun i hi hb => ?_, fun i hi => b i (by omega)⟩
        by_cases e : i = k
        · rw [e] at hb ⊢
          rw [← b k (Nat.le_refl _)]
          exact hb
        · exact a i (by omega) hb
      · intro ⟨a, b⟩
        refine ⟨fun i hi hb => a i (by omega) hb, fun i hi => ?_⟩
        by_cases e : i = k
        · rw [e, c']
          cases q : h.testBit k with
          | false => rfl
          | true =>
            have := a k (by omega) q
            rw [c'] at this
            cases this
        · exact b i (by omega)
theorem zz_two {k h m : Nat} (hm : m.testBit k = true) (h1 : zz k h m = true) (h2 : zz k h (m ^^^ 2 ^ k) = true) : False := by
  have a := ((zz_spec k h m).mp h1).2 k (Nat.le_refl _)
  have b := ((zz_spec k h _).mp h2).2 k (Nat.le_refl _)
  rw [a, tx_same hm, hm] at b
  cases b
theorem zz_end {R h m : Nat} (hh : h < 2 ^ R) (hm : m < 2 ^ R) : zz R h m = true ↔ sbs h m := by
  rw [zz_spec]
  constructor
  · intro ⟨a, b⟩ i hi
    by_cases c : i < R
    · exact a i c hi
    · rw [← b i (by omega)]; exact hi
  · intro a
    refine ⟨fun i _ hi => a i hi, fun i hi => ?_⟩
    rw [Nat.testBit_lt_two_pow (Nat.lt_of_lt_of_le hh (Nat.pow_le_pow_right (by omega) hi)), Nat.testBit_lt_two_pow (Nat.lt_of_lt_of_le hm (Nat.pow_le_pow_right (by omega) hi))]
/-- outside the whole less a set: nothing in common with it -/
theorem sbs_out {R h t : Nat} (hh : h < 2 ^ R) : sbs h ((2 ^ R - 1) ^^^ t) ↔ (h &&& t) = 0 := by
  constructor
  · intro a
    apply Nat.eq_of_testBit_eq
    intro i
    rw [Nat.zero_testBit, Nat.testBit_and]
    cases q : h.testBit i with
    | false => rfl
    | true =>
      have := a i q
      rw [Nat.testBit_xor, Nat.testBit_two_pow_sub_one] at this
      have hi : i < R := by
        refine Classical.byContradiction (fun hn => ?_)
        rw [Nat.testBit_lt_two_pow (Nat.lt_of_lt_of_le hh (Nat.pow_le_pow_right (by omega) (by omega)))] at q
        cases q
      rw [decide_eq_true hi] at this
      cases r : t.testBit i with
      | false => rfl
      | true => rw [r] at this; cases this
  · intro a i hi
    have h2 := congrArg (fun z => z.testBit i) a
    simp only [Nat.testBit_and, Nat.zero_testBit, hi, Bool.true_and] at h2
    have hi2 : i < R := by
      refine Classical.byContradiction (fun hn => ?_)
      rw [Nat.testBit_lt_two_pow (Nat.lt_of_lt_of_le hh (Nat.pow_le_pow_right (by omega) (by omega)))] at hi
      cases hi
    rw [Nat.testBit_xor, Nat.testBit_two_pow_sub_one, h2, decide_eq_true hi2]
    rfl
section LE
variable (g : Nat → Nat → Int32) (N R : Nat) (vd : Nat → Int32) (c0 : Int32)
/-- counts for learning -/
def xCd (n : Nat) : Bool := decide (¬ vd n = -1000000) && decide (g 61 n - g 61 n / 2 * 2 = 0)
def xVl (n : Nat) : Int32 := if vd n = 1 then g 65 n else -c0
def xHn (n : Nat) : Nat := (xH g N R n).toNatClampNeg
def xZ (k m : Nat) : Int32 := fSum (fun n => if xCd g vd n && zz k (xHn g N R n) m then xVl g vd c0 n else 0) N
end LE
section LE2
variable {g : Nat → Nat → Int32} {N R b : Nat} {vd : Nat → Int32} {c0 : Int32}
theorem xHn_eq (hw : gW g N R) (n : Nat) : xH g N R n = nI (xHn g N R n) ∧ xHn g N R n < 2 ^ R := by
  have hR := hw.hR
  have h12 : 2 ^ R ≤ 2 ^ 12 := Nat.pow_le_pow_right (by omega) hR
  obtain ⟨s, hs, es⟩ := xHold_rng hw (xFeat g N n 0 (g 65 n))
  have es : xH g N R n = nI s := es
  unfold xHn
  rw [es, ix_cl (by omega)]
  exact ⟨rfl, hs⟩
theorem xZ_s {k m : Nat} : xZ g N R vd c0 (k + 1) m = if m.testBit k = true then xZ g N R vd c0 k m + xZ g N R vd c0 k (m ^^^ 2 ^ k) else xZ g N R vd c0 k m := by
  have e : ∀ h, zz (k + 1) h m = if m.testBit k = true then zz k h m || zz k h (m ^^^ 2 ^ k) else zz k h m := fun h => rfl
  unfold xZ
  by_cases c : m.testBit k = true
  · rw [if_pos c, ← fSum_add]
    refine fSum_congr (fun n _ => ?_)
    rw [e, if_pos c]
    cases q : xCd g vd n with
    | false => simp
    | true =>
      cases q1 : zz k (xHn g N R n) m with
      | true =>
        cases q2 : zz k (xHn g N R n) (m ^^^ 2 ^ k) with
        | true => exact (zz_two c q1 q2).elim
        | false => simp
      | false => simp
  · rw [if_neg c]
    refine fSum_congr (fun n _ => ?_)
    rw [e, if_neg c]
/-- the sums, filled in -/
theorem s_sumL (hw : gW g N R) (hR0 : True) : ∀ (f k : Nat) (τ : aSt), cK g N R b τ → k ≤ N → N < k + f → (∀ n, n < N → gI τ (84 + n) 7 = vd n) → gI τ 26 0 = c0 → (∀ m, m < 2 ^ R → gI τ 30 m = fSum (fun j => if xCd g vd (xOrd g j) && zz 0 (xHn g N R (xOrd g j)) m then xVl g vd c0 (xOrd g j) else 0) k) → ∃ τ', f_X5_sumUp_21 f (nI (2 ^ R - 1)) (nI k) τ = f_X5_sumUp_110 aN (nI (2 ^ R - 1)) 0 τ' ∧ Fr (fun a k => cSl a k ∨ a = 30) τ τ' ∧ cK g N R b τ' ∧ (∀ m, m < 2 ^ R → gI τ' 30 m = xZ g N R vd c0 0 m) := by
  have hN := hw.hN
  have hR := hw.hR
  have h12 : 2 ^ R ≤ 2 ^ 12 := Nat.pow_le_pow_right (by omega) hR
  have h1R : 1 ≤ 2 ^ R := Nat.one_le_two_pow
  intro f
  induction f with
  | zero => intro k τ _ h1 h2; omega
  | succ f ih =>
    intro k τ hk h1 h2 hv hc0 hs
    show ∃ τ', f_X5_sumUp_21_b (f_X5_sumUp_21 f) (nI (2 ^ R - 1)) (nI k) τ = _ ∧ _
    unfold f_X5_sumUp_21_b f_X5_sumUp_102
    rw [hk.1.n2]
    by_cases z : k = N
    · subst z
      rw [if_pos (Int32.le_refl _)]
      refine ⟨τ, rfl, Fr.rf, hk, fun m hm => ?_⟩
      rw [hs m hm]
      exact fSum_perm hw.olt hw.oinj (fun n => if xCd g vd n && zz 0 (xHn g k R n) m then xVl g vd c0 n else 0)
    rw [if_neg (fun q => z (by rw [nI_leI (by omega) (by omega)] at q; omega)), s_inOrd hw hk.1 (show k < N by omega)]
    simp only [Option.bind_some, oC_some]
    have hp : xOrd g k < N := hw.olt k (by omega)
    have ihk := ih (k + 1)
    simp only [fSum_s] at ihk
    generalize xOrd g k = p at *
    obtain ⟨p0, -⟩ := hk.1.pay hp
    rw [if_pos (hk.1.ok hp), hv p hp, p0, nI_1]
    have skip : xCd g vd p = false → ∃ τ', f_X5_sumUp_21 f (nI (2 ^ R - 1)) (nI (k + 1)) τ = f_X5_sumUp_110 aN (nI (2 ^ R - 1)) 0 τ' ∧ Fr (fun a k => cSl a k ∨ a = 30) τ τ' ∧ cK g N R b τ' ∧ (∀ m, m < 2 ^ R → gI τ' 30 m = xZ g N R vd c0 0 m) := by
      intro hx
      refine ihk τ hk (by omega) (by omega) hv hc0 (fun m hm => ?_)
      rw [hs m hm, hx, Bool.false_and, if_neg (by decide), Int32.add_zero]
    by_cases c : vd p = -1000000
    · rw [if_pos c]
      exact skip (by unfold xCd; simp [c])
    rw [if_neg c]
    by_cases d : g 61 p - g 61 p / 2 * 2 = 0
    case neg =>
      rw [if_neg d]
      exact skip (by unfold xCd; rw [decide_eq_false d, Bool.and_false])
    rw [if_pos d]
    have hx : xCd g vd p = true := by unfold xCd; rw [decide_eq_true d, decide_eq_true c]; rfl
    obtain ⟨τ1, a1, a2, -, a3⟩ := s_heldBy hw hk hp (kn := 0) (by omega)
    obtain ⟨eh, hh⟩ := xHn_eq hw p
    rw [show f_X2_heldBy (84 + p) 0 τ = _ from a1, Option.bind_some, show xSet g N R p 0 (g 65 p) = nI (xHn g N R p) from eh]
    have hm0 : xHn g N R p &&& (2 ^ R - 1) = xHn g N R p := by rw [Nat.and_two_pow_sub_one_eq_mod, Nat.mod_eq_of_lt hh]
    simp only [nb_and, hm0]
    generalize hH : xHn g N R p = H at *
    have ib : inB (nI H) 4096 := ix_in (by omega) (by omega)
    have cl : (nI H).toNatClampNeg = H := ix_cl (by omega)
    obtain ⟨-, -, -, -, p4, -, -⟩ := a3.1.pay hp
    have hv1 : ∀ n, n < N → gI τ1 (84 + n) 7 = vd n := fun n hn => by rw [a2.2.1 _ _ (by unfold cSl; omega)]; exact hv n hn
    have hc1 : gI τ1 26 0 = c0 := by rw [a2.2.1 26 0 (by unfold cSl; omega)]; exact hc0
    have e100 : (if gI τ1 (84 + p) 7 = 1 then f_X5_sumUp_100 (f_X5_sumUp_21 f) (nI (2 ^ R - 1)) (nI k) (nI H) (gI τ1 30 (nI H).toNatClampNeg) (gI τ1 (84 + p) 4) τ1 else f_X5_sumUp_100 (f_X5_sumUp_21 f) (nI (2 ^ R - 1)) (nI k) (nI H) (gI τ1 30 (nI H).toNatClampNeg) (-(gI τ1 26 0)) τ1) = f_X5_sumUp_21 f (nI (2 ^ R - 1)) (nI (k + 1)) (sI τ1 30 H (gI τ1 30 H + xVl g vd c0 p)) := by
      unfold f_X5_sumUp_100 f_X5_sumUp_102 xVl
      rw [hv1 p hp, p4, hc1, if_pos ib, if_pos ib, cl, nI_1]
      by_cases v1 : vd p = 1
      · rw [if_pos v1, if_pos v1]
      · rw [if_neg v1, if_neg v1]
    rw [if_pos ib, if_pos (a3.1.ok hp), e100]
    have f2 : Fr (fun a k => cSl a k ∨ a = 30) τ (sI τ1 30 H (gI τ1 30 H + xVl g vd c0 p)) := Fr.sI (a2.mono (fun a k q => Or.inl q)) (Or.inr rfl)
    obtain ⟨τ2, b1, b2, b3, b4⟩ := ihk (sI τ1 30 H (gI τ1 30 H + xVl g vd c0 p)) ⟨a3.1.s2 (by omega), a3.2.fr (C := fun a k => a = 30) (Fr.sI Fr.rf rfl) (fun a k q => by omega)⟩ (by omega) (by omega) (fun n hn => by rw [gI_other (Or.inl (by omega))]; exact hv1 n hn) (by rw [gI_other (Or.inl (by omega))]; exact hc1) (fun m hm => by
      have e30 : ∀ j, gI τ1 30 j = gI τ 30 j := fun j => a2.2.1 30 j (by unfold cSl; omega)
      rw [hx, Bool.true_and]
      by_cases e : m = H
      · rw [e, gI_same, e30, hs H hh, if_pos (show zz 0 H H = true from decide_eq_true rfl)]
      · rw [gI_other (Or.inr e), e30, hs m hm, if_neg (show ¬ zz 0 H m = true from fun q => e (of_decide_eq_true q).symm), Int32.add_zero])
    exact ⟨τ2, b1, f2.tr b2, b3, b4⟩
theorem s_zet126 (hw : gW g N R) (rec110 : Int32 → Int32 → aSt → Option (Unit × aSt)) {k : Nat} (hk : k < R) : ∀ (f x : Nat) (τ : aSt), x ≤ 2 ^ R → 2 ^ R < x + f → (∀ m, m < 2 ^ R → gI τ 30 m = if m < x then xZ g N R vd c0 (k + 1) m else xZ g N R vd c0 k m) → ∃ τ', f_X5_sumUp_126 rec110 f (nI (2 ^ R - 1)) (nI k) (nI x) τ = rec110 (nI (2 ^ R - 1)) (nI (k + 1)) τ' ∧ Fr (fun a _ => a = 30) τ τ' ∧ (∀ m, m < 2 ^ R → gI τ' 30 m = xZ g N R vd c0 (k + 1) m) := by
  have hR := hw.hR
  have h12 : 2 ^ R ≤ 2 ^ 12 := Nat.pow_le_pow_right (by omega) hR
  have h1R : 1 ≤ 2 ^ R := Nat.one_le_two_pow
  intro f
  induction f with
  | zero => intro x τ h1 h2; omega
  | succ f ih =>
    intro x τ h1 h2 hs
    show ∃ τ', f_X5_sumUp_126_b rec110 (f_X5_sumUp_126 rec110 f) (nI (2 ^ R - 1)) (nI k) (nI x) τ = _ ∧ _
    unfold f_X5_sumUp_126_b f_X5_sumUp_159
    by_cases e : x = 2 ^ R
    · rw [if_pos ((nI_ltI (by omega) (by omega)).mpr (by omega)), nI_1]
      exact ⟨τ, rfl, Fr.rf, fun m hm => by rw [hs m hm, if_pos (by omega)]⟩
    have hx : x < 2 ^ R := by omega
    rw [if_neg (fun q => by rw [nI_ltI (by omega) (by omega)] at q; omega), nI_1]
    by_cases c : x.testBit k = true
    · have hx2 : x ^^^ 2 ^ k < 2 ^ R := Nat.xor_lt_two_pow hx (Nat.pow_lt_pow_right (by omega) hk)
      have hlt : x ^^^ 2 ^ k < x := by
        have h3 := tx_back x k
        have h4 := mk_xo (x := x ^^^ 2 ^ k) (w := k) (tx_same c)
        rw [h3] at h4
        have h5 : x ^^^ 2 ^ k ≤ (x ^^^ 2 ^ k) ||| 2 ^ k := Nat.left_le_or
        rw [h4] at h5
        have h6 : x ^^^ 2 ^ k ≠ x := fun z => by
          have := tx_same c
          rw [z, c] at this
          cases this
        omega
      rw [if_pos ((nb_on (by omega) (by omega)).mpr c), nb_xbit (by omega), if_pos (ix_in (by omega) (by omega)), if_pos (ix_in (by omega) (by omega)), if_pos (ix_in (by omega) (by omega)), ix_cl (by omega), ix_cl (by omega)]
      have v1 : gI τ 30 x = xZ g N R vd c0 k x := by rw [hs x hx, if_neg (Nat.lt_irrefl _)]
      have v2 : gI τ 30 (x ^^^ 2 ^ k) = xZ g N R vd c0 k (x ^^^ 2 ^ k) := by
        rw [hs _ hx2, if_pos hlt, xZ_s, tx_same c, if_neg (by decide)]
      obtain ⟨τ2, b1, b2, b3⟩ := ih (x + 1) (sI τ 30 x (gI τ 30 x + gI τ 30 (x ^^^ 2 ^ k))) (by omega) (by omega) (fun m hm => by
        by_cases e2 : m = x
        · rw [e2, gI_same, if_pos (by omega), v1, v2, xZ_s, if_pos c]
        · rw [gI_other (Or.inr e2), hs m hm]
          by_cases l : m < x
          · rw [if_pos l, if_pos (by omega)]
          · rw [if_neg l, if_neg (by omega)])
      exact ⟨τ2, b1, (Fr.sI Fr.rf rfl : Fr (fun a _ => a = 30) τ _).tr b2, b3⟩
    · rw [if_neg (fun q => c ((nb_on (by omega) (by omega)).mp q))]
      exact ih (x + 1) τ (by omega) (by omega) (fun m hm => by
        rw [hs m hm]
        by_cases e2 : m = x
        · rw [e2, if_neg (Nat.lt_irrefl _), if_pos (by omega), xZ_s, if_neg c]
        · by_cases l : m < x
          · rw [if_pos l, if_pos (by omega)]
          · rw [if_neg l, if_neg (by omega)])
theorem s_zet110 (hw : gW g N R) : ∀ (f k : Nat) (τ : aSt), cK g N R b τ → k ≤ R → R < k + f → (∀ m, m < 2 ^ R → gI τ 30 m = xZ g N R vd c0 k m) → ∃ τ', f_X5_sumUp_110 f (nI (2 ^ R - 1)) (nI k) τ = some ((), τ') ∧ Fr (fun a _ => a = 30) τ τ' ∧ (∀ m, m < 2 ^ R → gI τ' 30 m = xZ g N R vd c0 R m) := by
  have hR := hw.hR
  have h12 : 2 ^ R ≤ 2 ^ 12 := Nat.pow_le_pow_right (by omega) hR
  intro f
  induction f with
  | zero => intro k τ _ h1 h2; omega
  | succ f ih =>
    intro k τ hk h1 h2 hs
    show ∃ τ', f_X5_sumUp_110_b (f_X5_sumUp_110 f) (nI (2 ^ R - 1)) (nI k) τ = _ ∧ _
    unfold f_X5_sumUp_110_b
    rw [hk.1.r11]
    simp only [oC_some]
    rw [if_pos hk.1.okb, hk.1.sz]
    by_cases e : k = R
    · subst e
      rw [if_pos (Int32.le_refl _)]
      exact ⟨τ, rfl, Fr.rf, hs⟩
    · rw [if_neg (fun q => by rw [nI_leI (by omega) (by omega)] at q; omega)]
      obtain ⟨τ1, a1, a2, a3⟩ := s_zet126 (vd := vd) (c0 := c0) hw (f_X5_sumUp_110 f) (show k < R by omega) aN 0 τ (Nat.zero_le _) (by show 2 ^ R < 0 + 1000000; omega) (fun m hm => by rw [if_neg (Nat.not_lt_zero _)]; exact hs m hm)
      rw [show f_X5_sumUp_126 (f_X5_sumUp_110 f) aN (nI (2 ^ R - 1)) (nI k) 0 τ = _ from a1]
      obtain ⟨τ2, b1, b2, b3⟩ := ih (k + 1) τ1 ⟨hk.1.fr a2 (fun a k q => cC_row hk.1.hb (by omega)), hk.2.fr a2 (fun a k q => by omega)⟩ (by omega) (by omega) a3
      exact ⟨τ2, b1, a2.tr b2, b3⟩
theorem s_sumUp (hw : gW g N R) {τ : aSt} (h : cK g N R b τ) (hv : ∀ n, n < N → gI τ (84 + n) 7 = vd n) (hc0 : gI τ 26 0 = c0) : ∃ τ', f_X5_sumUp τ = some ((), τ') ∧ Fr (fun a k => cSl a k ∨ a = 30) τ τ' ∧ cK g N R b τ' ∧ (∀ m, m < 2 ^ R → gI τ' 30 m = xZ g N R vd c0 R m) := by
  have hN := hw.hN
  have hR := hw.hR
  have h12 : 2 ^ R ≤ 2 ^ 12 := Nat.pow_le_pow_right (by omega) hR
  unfold f_X5_sumUp
  rw [h.1.r11]
  simp only [oC_some]
  rw [if_pos h.1.okb, s_allRules hw h.1, Option.bind_some]
  obtain ⟨τ1, a1, a2, -, a3⟩ := s_fill 30 0 τ rfl (by decide) (by rw [h.1.gn]; omega)
  have f1 : Fr (fun a _ => a = 30) τ τ1 := a2.mono (fun a k q => q.1)
  have hk1 : cK g N R b τ1 := ⟨h.1.fr f1 (fun a k q => cC_row h.1.hb (by omega)), h.2.fr f1 (fun a k q => by omega)⟩
  rw [a1, Option.bind_some]
  have ln : aLn 30 = 4096 := rfl
  obtain ⟨τ2, b1, b2, b3, b4⟩ := s_sumL (vd := vd) (c0 := c0) hw trivial aN 0 τ1 hk1 (by omega) (by show N < 0 + 1000000; omega) (fun n hn => by rw [f1.2.1 _ _ (by omega)]; exact hv n hn) (by rw [f1.2.1 _ _ (by omega)]; exact hc0) (fun m hm => by rw [a3 m (by omega)]; rfl)
  rw [show f_X5_sumUp_21 aN (nI (2 ^ R - 1)) 0 τ1 = _ from b1]
  obtain ⟨τ3, d1, d2, d3⟩ := s_zet110 (vd := vd) (c0 := c0) hw aN 0 τ2 b3 (by omega) (by show R < 0 + 1000000; omega) b4
  refine ⟨τ3, d1, (f1.mono (fun a k q => Or.inr q)).tr (b2.tr (d2.mono (fun a k q => Or.inr q))), ⟨b3.1.fr d2 (fun a k q => cC_row b3.1.hb (by omega)), b3.2.fr d2 (fun a k q => by omega)⟩, d3⟩
end LE2
