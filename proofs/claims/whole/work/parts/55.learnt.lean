/-! ===== learnt ===== -/
theorem fSum_toInt {h : Nat → Int32} : ∀ {n : Nat}, n ≤ 120 → (∀ i, i < n → -100000 ≤ (h i).toInt ∧ (h i).toInt ≤ 100000) → (fSum h n).toInt = iSum (fun i => (h i).toInt) n
  | 0, _, _ => rfl
  | n + 1, hn, hh => by
    have ih := fSum_toInt (h := h) (n := n) (by omega) (fun i hi => hh i (by omega))
    have r := iSum_rng (h := fun i => (h i).toInt) (B := 100000) (n := n) (fun i hi => hh i (by omega))
    have r2 := hh n (by omega)
    rw [fSum_s, iSum_s, ← ih]
    rw [← ih] at r
    rw [pi_add (by omega) (by omega)]
section LR
variable (g : Nat → Nat → Int32) (N R : Nat) (vd : Nat → Int32) (c0 : Int32)
def xU (set : Nat) : Int := iSum (fun n => if xCd g vd n && decide (xHn g N R n &&& set = 0) then (xVl g vd c0 n).toInt else 0) N
def xK0 : Int := iSum (fun n => if xCd g vd n && decide (¬ vd n = 1) then c0.toInt else 0) N
def xCs (set odd : Nat) : Int := iSum (xPc g N R vd c0 (nI set) (nI odd)) N
/-- the best so far -/
def bl : Nat → Nat
  | 0 => 0
  | x + 1 => if x = 0 then 0 else if xU g N R vd c0 x < xU g N R vd c0 (bl x) then x else if xU g N R vd c0 x = xU g N R vd c0 (bl x) then (if xBits (nI (bl x)) ≤ xBits (nI x) then bl x else x) else bl x
end LR
section LR2
variable {g : Nat → Nat → Int32} {N R b : Nat} {vd : Nat → Int32} {c0 : Int32}
def cGood (g : Nat → Nat → Int32) (N : Nat) (c0 : Int32) : Prop := (0 ≤ c0.toInt ∧ c0.toInt ≤ 100000) ∧ ∀ n, n < N → 1 ≤ (g 65 n).toInt ∧ (g 65 n).toInt ≤ 100000
theorem gW.good (hw : gW g N R) {c : Nat} (hc : c ≤ 100000) (e : c0 = nI c) : cGood g N c0 := by
  refine ⟨by rw [e, pi_nI (by omega)]; omega, fun n hn => ?_⟩
  obtain ⟨t, h1, h2, h3⟩ := hw.r65 hn
  rw [h3, pi_nI (by omega)]
  omega
theorem xVl_rng (hg : cGood g N c0) {n : Nat} (hn : n < N) : -100000 ≤ (xVl g vd c0 n).toInt ∧ (xVl g vd c0 n).toInt ≤ 100000 := by
  have h1 := hg.1
  have h2 := hg.2 n hn
  unfold xVl
  split
  · omega
  · rw [Int32.toInt_neg, pi_bm (by omega) (by omega)]
    omega
theorem xU_rng (hN : N ≤ 120) (hg : cGood g N c0) (set : Nat) : -12000000 ≤ xU g N R vd c0 set ∧ xU g N R vd c0 set ≤ 12000000 := by
  have := iSum_rng (h := fun n => if xCd g vd n && decide (xHn g N R n &&& set = 0) then (xVl g vd c0 n).toInt else 0) (B := 100000) (n := N) (fun i hi => by
    have := xVl_rng (vd := vd) hg hi
    show -100000 ≤ (if _ then _ else _) ∧ (if _ then _ else _) ≤ _
    split <;> omega)
  unfold xU
  omega
theorem xZ_U (hw : gW g N R) (hg : cGood g N c0) {set : Nat} (hs : set < 2 ^ R) : (xZ g N R vd c0 R ((2 ^ R - 1) ^^^ set)).toInt = xU g N R vd c0 set := by
  have hN := hw.hN
  unfold xZ xU
  rw [fSum_toInt hN (fun i hi => by
    have := xVl_rng (vd := vd) hg hi
    show -100000 ≤ (if _ then _ else _ : Int32).toInt ∧ (if _ then _ else _ : Int32).toInt ≤ _
    split
    · exact this
    · show -100000 ≤ (0 : Int32).toInt ∧ (0 : Int32).toInt ≤ 100000
      decide)]
  refine iSum_congr (fun n hn => ?_)
  obtain ⟨-, hh⟩ := xHn_eq hw n
  have h1R : 1 ≤ 2 ^ R := Nat.one_le_two_pow
  have hx : (2 ^ R - 1) ^^^ set < 2 ^ R := Nat.xor_lt_two_pow (by omega) hs
  have e : zz R (xHn g N R n) ((2 ^ R - 1) ^^^ set) = decide (xHn g N R n &&& set = 0) := by
    have := (zz_end hh hx).trans (sbs_out (t := set) hh)
    by_cases c : xHn g N R n &&& set = 0
    · rw [decide_eq_true c]; exact this.mpr c
    · rw [decide_eq_false c]
      cases q : zz R (xHn g N R n) ((2 ^ R - 1) ^^^ set) with
      | false => rfl
      | true => exact absurd (this.mp q) c
  rw [e]
  split <;> rfl
theorem xCs_U (hw : gW g N R) (hg : cGood g N c0) (hv3 : cVd N vd) {set : Nat} (hs : set < 2 ^ R) : xCs g N R vd c0 set 0 = xK0 g N vd c0 + xU g N R vd c0 set := by
  have hR := hw.hR
  have h12 : 2 ^ R ≤ 2 ^ 12 := Nat.pow_le_pow_right (by omega) hR
  unfold xCs xK0 xU
  rw [← iSum_add]
  refine iSum_congr (fun n hn => ?_)
  obtain ⟨eh, hh⟩ := xHn_eq hw n
  have ea : (xH g N R n &&& nI set = 0) ↔ (xHn g N R n &&& set = 0) := by
    rw [eh, nb_and]
    exact nm_0 (by omega)
  unfold xPc xCd xVl
  have z0 : nI 0 = 0 := rfl
  rw [z0]
  by_cases c : vd n = -1000000
  · simp [c]
  · rw [if_neg c, decide_eq_true c]
    by_cases d : g 61 n - g 61 n / 2 * 2 = 0
    · rw [if_pos d, decide_eq_true d]
      by_cases v1 : vd n = 1
      · rw [if_pos v1, if_pos v1]
        by_cases q : xHn g N R n &&& set = 0
        · rw [if_pos (ea.mpr q)]
          simp [v1, q]
        · rw [if_neg (fun z => q (ea.mp z))]
          simp [v1, q]
      · rw [if_neg v1, if_neg v1]
        have hc := hg.1
        by_cases q : xHn g N R n &&& set = 0
        · rw [if_pos (ea.mpr q), Int32.toInt_neg, pi_bm (by omega) (by omega)]
          simp [v1, q]
          omega
        · rw [if_neg (fun z => q (ea.mp z))]
          simp [v1, q]
    · rw [if_neg d, decide_eq_false d]
      simp
theorem bl_lt : ∀ x, 0 < x → bl g N R vd c0 x < x
  | 0, h => absurd h (Nat.lt_irrefl _)
  | x + 1, _ => by
    show (if x = 0 then 0 else if xU g N R vd c0 x < xU g N R vd c0 (bl g N R vd c0 x) then x else if xU g N R vd c0 x = xU g N R vd c0 (bl g N R vd c0 x) then (if xBits (nI (bl g N R vd c0 x)) ≤ xBits (nI x) then bl g N R vd c0 x else x) else bl g N R vd c0 x) < x + 1
    by_cases e : x = 0
    · rw [if_pos e]; omega
    · have := bl_lt (x := x) (by omega)
      rw [if_neg e]
      split
      · omega
      · split
        · split <;> omega
        · omega
theorem bl_s {x : Nat} (h : 0 < x) : bl g N R vd c0 (x + 1) = if xU g N R vd c0 x < xU g N R vd c0 (bl g N R vd c0 x) then x else if xU g N R vd c0 x = xU g N R vd c0 (bl g N R vd c0 x) then (if xBits (nI (bl g N R vd c0 x)) ≤ xBits (nI x) then bl g N R vd c0 x else x) else bl g N R vd c0 x := by
  show (if x = 0 then 0 else _) = _
  rw [if_neg (by omega)]
theorem s_learnL (hw : gW g N R) (hg : cGood g N c0) {τ : aSt} (hz : ∀ m, m < 2 ^ R → gI τ 30 m = xZ g N R vd c0 R m) : ∀ (f x : Nat), 1 ≤ x → x ≤ 2 ^ R → 2 ^ R < x + f → f_X5_learn_19 f (nI (2 ^ R - 1)) (nI (bl g N R vd c0 x)) (nI x) τ = some (nI (bl g N R vd c0 (2 ^ R)), τ) := by
  have hR := hw.hR
  have hN := hw.hN
  have h12 : 2 ^ R ≤ 2 ^ 12 := Nat.pow_le_pow_right (by omega) hR
  intro f
  induction f with
  | zero => intro x h0 h1 h2; omega
  | succ f ih =>
    intro x h0 h1 h2
    show f_X5_learn_19_b (f_X5_learn_19 f) (nI (2 ^ R - 1)) (nI (bl g N R vd c0 x)) (nI x) τ = _
    unfold f_X5_learn_19_b f_X5_learn_64 f_X5_learn_66
    by_cases e : x = 2 ^ R
    · rw [if_pos ((nI_ltI (by omega) (by omega)).mpr (by omega)), e]
    have hx : x < 2 ^ R := by omega
    have hb := bl_lt (g := g) (N := N) (R := R) (vd := vd) (c0 := c0) x (by omega)
    have ihk := ih (x + 1) (by omega) (by omega) (by omega)
    rw [bl_s (by omega)] at ihk
    generalize bl g N R vd c0 x = B at *
    have hx1 : (2 ^ R - 1) ^^^ x < 2 ^ R := Nat.xor_lt_two_pow (by omega) hx
    have hx2 : (2 ^ R - 1) ^^^ B < 2 ^ R := Nat.xor_lt_two_pow (by omega) (by omega)
    rw [if_neg (fun q => by rw [nI_ltI (by omega) (by omega)] at q; omega), nb_xor, nb_xor, if_pos (ix_in (by omega) (by omega)), if_pos (ix_in (by omega) (by omega)), ix_cl (by omega), ix_cl (by omega), hz _ hx1, hz _ hx2, nI_1]
    have u1 := xZ_U (vd := vd) hw hg hx
    have u2 := xZ_U (vd := vd) hw hg (show B < 2 ^ R by omega)
    have r1 := xU_rng (R := R) (vd := vd) hN hg x
    have r2 := xU_rng (R := R) (vd := vd) hN hg B
    have es : (xZ g N R vd c0 R ((2 ^ R - 1) ^^^ x) - xZ g N R vd c0 R ((2 ^ R - 1) ^^^ B)).toInt = xU g N R vd c0 x - xU g N R vd c0 B := by
      rw [pi_sub (by omega) (by omega), u1, u2]
    have l1 : (xZ g N R vd c0 R ((2 ^ R - 1) ^^^ x) - xZ g N R vd c0 R ((2 ^ R - 1) ^^^ B) < 0) ↔ xU g N R vd c0 x < xU g N R vd c0 B := by
      rw [pi_lt, es, show (0 : Int32).toInt = 0 from rfl]
      omega
    have l2 : (xZ g N R vd c0 R ((2 ^ R - 1) ^^^ x) - xZ g N R vd c0 R ((2 ^ R - 1) ^^^ B) = 0) ↔ xU g N R vd c0 x = xU g N R vd c0 B := by
      rw [pi_eq, es, show (0 : Int32).toInt = 0 from rfl]
      omega
    by_cases c1 : xU g N R vd c0 x < xU g N R vd c0 B
    · rw [if_pos (l1.mpr c1)]
      rw [if_pos c1] at ihk
      exact ihk
    rw [if_neg (fun q => c1 (l1.mp q))]
    rw [if_neg c1] at ihk
    by_cases c2 : xU g N R vd c0 x = xU g N R vd c0 B
    · rw [if_pos (l2.mpr c2), s_bitCount (by omega), Option.bind_some, s_bitCount (by omega), Option.bind_some]
      rw [if_pos c2] at ihk
      by_cases c3 : xBits (nI B) ≤ xBits (nI x)
      · rw [if_pos c3]
        rw [if_pos c3] at ihk
        exact ihk
      · rw [if_neg c3]
        rw [if_neg c3] at ihk
        exact ihk
    · rw [if_neg (fun q => c2 (l2.mp q))]
      rw [if_neg c2] at ihk
      exact ihk
theorem s_learn (hw : gW g N R) (hg : cGood g N c0) {τ : aSt} (h : cK g N R b τ) (hv : ∀ n, n < N → gI τ (84 + n) 7 = vd n) (hc0 : gI τ 26 0 = c0) : ∃ τ', f_X5_learn τ = some (nI (bl g N R vd c0 (2 ^ R)), τ') ∧ Fr (fun a k => cSl a k ∨ a = 30) τ τ' ∧ cK g N R b τ' := by
  have hR := hw.hR
  have h12 : 2 ^ R ≤ 2 ^ 12 := Nat.pow_le_pow_right (by omega) hR
  have h1R : 1 ≤ 2 ^ R := Nat.one_le_two_pow
  obtain ⟨τ1, a1, a2, a3, a4⟩ := s_sumUp hw h hv hc0
  refine ⟨τ1, ?_, a2, a3⟩
  unfold f_X5_learn
  rw [a1, Option.bind_some, a3.1.r11]
  simp only [oC_some]
  rw [if_pos a3.1.okb, s_allRules hw a3.1, Option.bind_some]
  exact s_learnL hw hg a4 aN 1 (by omega) h1R (by show 2 ^ R < 1 + 1000000; omega)
theorem xCs_rng (hN : N ≤ 120) (hg : cGood g N c0) (set odd : Nat) : -1000000000000 ≤ xCs g N R vd c0 set odd ∧ xCs g N R vd c0 set odd ≤ 1000000000000 := by
  have := iSum_rng (h := xPc g N R vd c0 (nI set) (nI odd)) (B := 100000) (n := N) (fun i hi => by
    have h1 := hg.1
    have h2 := hg.2 i hi
    unfold xPc
    repeat' split
    all_goals omega)
  unfold xCs
  omega
/-- what is told of the learnt set -/
def xLt (g : Nat → Nat → Int32) (N R : Nat) (vd : Nat → Int32) (c0 : Int32) (j : Nat) : Int64 := if j = 0 then (nI (bl g N R vd c0 (2 ^ R))).toInt64 else if j = 1 then wI (xCs g N R vd c0 (bl g N R vd c0 (2 ^ R)) 0) else if j = 2 then wI (xCs g N R vd c0 (bl g N R vd c0 (2 ^ R)) 1) else wI (xCs g N R vd c0 (2 ^ R - 1) 1)
theorem s_learntM (hw : gW g N R) (hg : cGood g N c0) (hv3 : cVd N vd) {τ : aSt} (h : Ag g τ) (hv : ∀ n, n < N → gI τ 67 n = vd n) (hh : ∀ n, n < N → gI τ 81 n = if vd n = -1000000 then 0 else xH g N R n) (hc : gI τ 80 0 = c0) {j : Nat} (hj : j < 4) : ∀ (f x : Nat), 1 ≤ x → x ≤ 2 ^ R → 2 ^ R < x + f → f_X12_learnt_37 f (nI j) (nI (bl g N R vd c0 x)) (wI (xCs g N R vd c0 (bl g N R vd c0 x) 0)) (nI x) τ = some (xLt g N R vd c0 j, τ) := by
  have hR := hw.hR
  have hN := hw.hN
  have h12 : 2 ^ R ≤ 2 ^ 12 := Nat.pow_le_pow_right (by omega) hR
  have cs : ∀ set odd : Nat, f_X12_costOfSet (nI set) (nI odd) τ = some (wI (xCs g N R vd c0 set odd), τ) := fun set odd => s_costSet hw h hv hh hc (nI set) (nI odd)
  intro f
  induction f with
  | zero => intro x h0 h1 h2; omega
  | succ f ih =>
    intro x h0 h1 h2
    show f_X12_learnt_37_b (f_X12_learnt_37 f) (nI j) (nI (bl g N R vd c0 x)) (wI (xCs g N R vd c0 (bl g N R vd c0 x) 0)) (nI x) τ = _
    unfold f_X12_learnt_37_b f_X12_learnt_83 f_X12_learnt_89 f_X12_learnt_131 f_X12_learnt_135
    rw [h.c (by omega), hw.n20, nb_bit (by omega)]
    by_cases e : x = 2 ^ R
    · rw [if_pos ((nI_leI (by omega) (by omega)).mpr (by omega)), e, show (1 : Int32) = nI 1 from rfl, pk_sub Nat.one_le_two_pow]
      unfold xLt
      rcases (by omega : j = 0 ∨ j = 1 ∨ j = 2 ∨ j = 3) with q | q | q | q <;> subst q
      · rw [if_pos (show nI 0 = 0 from rfl), if_pos rfl]
      · rw [if_neg (by decide), if_pos rfl, if_neg (by decide), if_pos rfl]
      · rw [if_neg (by decide), if_neg (by decide), if_pos (show nI 2 = 2 from rfl), if_neg (by decide), if_neg (by decide), if_pos rfl, cs _ 1, Option.bind_some]
      · rw [if_neg (by decide), if_neg (by decide), if_neg (by decide), if_neg (by decide), if_neg (by decide), if_neg (by decide), cs _ 1, Option.bind_some]
    have hx : x < 2 ^ R := by omega
    have hb := bl_lt (g := g) (N := N) (R := R) (vd := vd) (c0 := c0) x (by omega)
    have ihk := ih (x + 1) (by omega) (by omega) (by omega)
    rw [bl_s (by omega)] at ihk
    generalize bl g N R vd c0 x = B at *
    rw [if_neg (fun q => by rw [nI_leI (by omega) (by omega)] at q; omega), show f_X12_costOfSet (nI x) 0 τ = _ from cs x 0, Option.bind_some, nI_1]
    simp only [lc_lt, lc_eq]
    have u1 := xCs_U (vd := vd) hw hg hv3 hx
    have u2 := xCs_U (vd := vd) hw hg hv3 (show B < 2 ^ R by omega)
    have r1 := xCs_rng (R := R) (vd := vd) hN hg x 0
    have r2 := xCs_rng (R := R) (vd := vd) hN hg B 0
    have l1 : (wI (xCs g N R vd c0 x 0) < wI (xCs g N R vd c0 B 0)) ↔ xU g N R vd c0 x < xU g N R vd c0 B := by
      rw [wI_lt r1.1 r1.2 r2.1 r2.2]
      omega
    have l2 : (wI (xCs g N R vd c0 x 0) = wI (xCs g N R vd c0 B 0)) ↔ xU g N R vd c0 x = xU g N R vd c0 B := by
      rw [wI_eq r1.1 r1.2 r2.1 r2.2]
      omega
    by_cases c1 : xU g N R vd c0 x < xU g N R vd c0 B
    · rw [if_pos (l1.mpr c1)]
      rw [if_pos c1] at ihk
      exact ihk
    rw [if_neg (fun q => c1 (l1.mp q))]
    rw [if_neg c1] at ihk
    by_cases c2 : xU g N R vd c0 x = xU g N R vd c0 B
    · rw [if_pos (l2.mpr c2), s_bits, Option.bind_some, s_bits, Option.bind_some]
      rw [if_pos c2] at ihk
      by_cases c3 : xBits (nI B) ≤ xBits (nI x)
      · rw [if_pos c3]
        rw [if_pos c3] at ihk
        exact ihk
      · rw [if_neg c3]
        rw [if_neg c3] at ihk
        exact ihk
    · rw [if_neg (fun q => c2 (l2.mp q))]
      rw [if_neg c2] at ihk
      exact ihk
end LR2
theorem op_learnt {σ : aSt} (h : Inv σ) (p1 : Int32) : Op (f_X11_learnt p1) (f_X12_learnt p1) σ := by
  obtain ⟨N, b, R, hw, hc, hca, hp, -⟩ := h.data
  have hA := Ag.self σ
  have hN := hw.hN
  have hR := hw.hR
  have h12 : 2 ^ R ≤ 2 ^ 12 := Nat.pow_le_pow_right (by omega) hR
  have h1R : 1 ≤ 2 ^ R := Nat.one_le_two_pow
  by_cases c : 0 ≤ p1 ∧ p1 ≤ 3
  case neg =>
    refine ⟨-1000001, σ, sI σ 57 0 0, ?_, ?_, h.thr 0⟩
    · unfold f_X11_learnt
      rw [if_neg (fun z => c (by rw [z]; decide)), if_neg (fun z => c (by rw [z]; decide)), if_neg (fun z => c (by rw [z]; decide)), if_neg (fun z => c (by rw [z]; decide))]
    · unfold f_X12_learnt
      rw [s_in 0 3 0 3 rfl rfl, Option.bind_some]
      simp only [bI_0, decide_eq_false_iff_not]
      rw [if_pos c]
  have c' := c
  obtain ⟨j, hj, rfl⟩ := ix_rng (N := 4) rfl rfl c'.1 c'.2
  have s3 : gI σ 26 0 = gI σ 80 0 := h.2.2.2.1.2.2.1
  obtain ⟨cc, hcc, ecc⟩ := h.2.2.2.1.2.2.2.2.1
  have hg : cGood (vw σ) N (gI σ 80 0) := hw.good hcc ecc
  have hv : ∀ n, n < N → gI σ (84 + n) 7 = gI σ 67 n := fun n hn => (hp.2.2.2.2.2.1 n hn).2.2.2.2.2.2.2
  have hv3 : cVd N (fun n => gI σ 67 n) := fun n hn => (hp.2.2.2.2.1 n hn).2.2.2.2.2.2
  have fin : ∀ σ1, f_X11_learnt (nI j) σ = some (xLt (vw σ) N R (fun n => gI σ 67 n) (gI σ 80 0) j, σ1) → Fr (fun a k => cSl a k ∨ a = 30) σ σ1 → cK (vw σ) N R b σ1 → Op (f_X11_learnt (nI j)) (f_X12_learnt (nI j)) σ := by
    intro σ1 a1 a2 a3
    have hA1 : Ag (vw σ) σ1 := hA.fr a2 (fun a k q => by
      rcases q with q | q
      · exact cSl_pers q
      · rw [q]; simp [pers])
    have f67 : ∀ n, gI (sI σ1 57 0 0) 67 n = gI σ 67 n := fun n => by rw [gI_other (Or.inl (by omega)), a2.2.1 67 n (by unfold cSl; omega)]
    obtain ⟨σ2, b1, b2, b3⟩ := s_findHolds (vd := fun n => gI σ 67 n) hw hA1.th (fun n hn => f67 n)
    have hA2 : Ag (vw σ) σ2 := hA1.th.fr2 b2 (fun a k q => by rcases q with q | q <;> rw [q] <;> simp [scr])
    have v2 : ∀ n, n < N → gI σ2 67 n = gI σ 67 n := fun n hn => by rw [b2.2.1 67 n (by omega)]; exact f67 n
    have c2 : gI σ2 80 0 = gI σ 80 0 := by rw [b2.2.1 80 0 (by omega), gI_other (Or.inl (by omega)), a2.2.1 80 0 (by unfold cSl; omega)]
    refine ⟨_, σ1, σ2, a1, ?_, ?_⟩
    · unfold f_X12_learnt
      rw [s_in 0 3 0 3 rfl rfl, Option.bind_some]
      simp only [bI_0, decide_eq_false_iff_not]
      rw [if_neg (not_not_intro c), b1, Option.bind_some, show f_X12_costOfSet 0 0 σ2 = _ from s_costSet (vd := fun n => gI σ 67 n) (c0 := gI σ 80 0) hw hA2 v2 b3 c2 (nI 0) (nI 0), Option.bind_some]
      exact s_learntM hw hg hv3 hA2 v2 b3 c2 hj aN 1 (by omega) h1R (by show 2 ^ R < 1 + 1000000; omega)
    · refine ((h.ca hw (a2.mono (fun a k q => ?_)) a3.2).thr 0).fr (b2.mono (fun a k q => by rcases q with q | q <;> rw [q] <;> simp [scr]))
      rcases q with q | q
      · exact cSl_ask q
      · rw [q]; simp [cAsk, scr]
  have frk : ∀ {τ τ' : aSt}, Fr (fun a k => cSl a k ∨ a = 30) τ τ' → (∀ n, n < N → gI τ (84 + n) 7 = gI σ 67 n) → gI τ 26 0 = gI σ 80 0 → (∀ n, n < N → gI τ' (84 + n) 7 = gI σ 67 n) ∧ gI τ' 26 0 = gI σ 80 0 := fun f h1 h2 => ⟨fun n hn => by rw [f.2.1 _ _ (by unfold cSl; omega)]; exact h1 n hn, by rw [f.2.1 _ _ (by unfold cSl; omega)]; exact h2⟩
  by_cases j3 : j = 3
  · subst j3
    obtain ⟨σ1, a1, a2, a3⟩ := s_price (vd := fun n => gI σ 67 n) (c0 := gI σ 80 0) hw hv3 (nI (2 ^ R - 1)) (nI 1) ⟨hc, pCa.of hca⟩ hv s3
    refine fin σ1 ?_ (a2.mono (fun a k q => Or.inl q)) a3
    unfold f_X11_learnt xLt
    rw [if_neg (by decide), if_neg (by decide), if_neg (by decide), if_pos (show nI 3 = 3 from rfl), hc.r11]
    simp only [oC_some]
    rw [if_pos hc.okb, s_allRules hw hc, Option.bind_some, show f_X5_priceOfSet (nI (2 ^ R - 1)) 1 σ = _ from a1, Option.bind_some, if_neg (by decide), if_neg (by decide), if_neg (by decide)]
    rfl
  · obtain ⟨σ1, a1, a2, a3⟩ := s_learn (vd := fun n => gI σ 67 n) (c0 := gI σ 80 0) hw hg ⟨hc, pCa.of hca⟩ hv s3
    obtain ⟨v1, c1⟩ := frk a2 hv s3
    rcases (by omega : j = 0 ∨ j = 1 ∨ j = 2) with q | q | q <;> subst q
    · refine fin σ1 ?_ a2 a3
      unfold f_X11_learnt xLt
      rw [if_pos (show nI 0 = 0 from rfl), a1, Option.bind_some, if_pos rfl]
    · obtain ⟨σ2, b1, b2, b3⟩ := s_price (vd := fun n => gI σ 67 n) (c0 := gI σ 80 0) hw hv3 (nI (bl (vw σ) N R (fun n => gI σ 67 n) (gI σ 80 0) (2 ^ R))) (nI 0) a3 v1 c1
      refine fin σ2 ?_ (a2.tr (b2.mono (fun a k q => Or.inl q))) b3
      unfold f_X11_learnt xLt
      rw [if_neg (by decide), if_pos (show nI 1 = 1 from rfl), a1, Option.bind_some, show f_X5_priceOfSet _ 0 σ1 = _ from b1, Option.bind_some, if_neg (by decide), if_pos rfl]
      rfl
    · obtain ⟨σ2, b1, b2, b3⟩ := s_price (vd := fun n => gI σ 67 n) (c0 := gI σ 80 0) hw hv3 (nI (bl (vw σ) N R (fun n => gI σ 67 n) (gI σ 80 0) (2 ^ R))) (nI 1) a3 v1 c1
      refine fin σ2 ?_ (a2.tr (b2.mono (fun a k q => Or.inl q))) b3
      unfold f_X11_learnt xLt
      rw [if_neg (by decide), if_neg (by decide), if_pos (show nI 2 = 2 from rfl), a1, Option.bind_some, show f_X5_priceOfSet _ 1 σ1 = _ from b1, Option.bind_some, if_neg (by decide), if_neg (by decide), if_pos rfl]
      rfl
