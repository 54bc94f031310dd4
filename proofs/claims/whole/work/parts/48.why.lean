/-! ===== why: the fewest rules, both sides; judged ===== -/
def gw (g : Nat → Nat → Int32) (r : Nat) : Nat := (g 70 r).toNatClampNeg
theorem nb_xbit {L k : Nat} (hk : k < 31) : nI L ^^^ ((1 : Int32) <<< (nI k &&& 31)) = nI (L ^^^ 2 ^ k) := by rw [nb_bit hk, nb_xor]
theorem nb_obit {L k : Nat} (hk : k < 31) : nI L ||| ((1 : Int32) <<< (nI k &&& 31)) = nI (L ||| 2 ^ k) := by rw [nb_bit hk, nb_or]
theorem nb_on {L k : Nat} (hL : L < 2147483648) (hk : k < 31) : ((nI L >>> (nI k &&& 31)) &&& 1 = 1) ↔ L.testBit k = true := by
  rw [nb_get hL hk]
  constructor
  · intro h
    rw [← nb_tb]
    exact nI_inj (by omega) (by omega) (show nI _ = nI 1 from h)
  · intro h
    rw [(nb_tb L k).mpr h]
    rfl
theorem nb_off {L k : Nat} (hL : L < 2147483648) (hk : k < 31) : ((nI L >>> (nI k &&& 31)) &&& 1 = 0) ↔ L.testBit k = false := by
  rw [nb_get hL hk]
  constructor
  · intro h
    have h2 : L / 2 ^ k % 2 = 0 := nI_inj (by omega) (by omega) (show nI _ = nI 0 from h)
    cases q : L.testBit k with
    | false => rfl
    | true =>
      have := (nb_tb L k).mpr q
      omega
  · intro h
    have : L / 2 ^ k % 2 = 0 := by
      rcases (by omega : L / 2 ^ k % 2 = 0 ∨ L / 2 ^ k % 2 = 1) with q | q
      · exact q
      · rw [(nb_tb L k).mp q] at h; cases h
    rw [this]
    rfl
theorem pcN_bS (x : Nat) : ∀ n, pcN x n = bS one x n
  | 0 => rfl
  | n + 1 => by
    show pcN x n + x / 2 ^ n % 2 = bS one x n + _
    rw [pcN_bS x n]
    cases q : x.testBit n with
    | true =>
      rw [(nb_tb x n).mpr q, if_pos rfl]
      rfl
    | false =>
      have : x / 2 ^ n % 2 = 0 := by
        rcases (by omega : x / 2 ^ n % 2 = 0 ∨ x / 2 ^ n % 2 = 1) with z | z
        · exact z
        · rw [(nb_tb x n).mp z] at q; cases q
      rw [this, if_neg (by decide)]
theorem xBits_R {x R : Nat} (hR : R ≤ 12) (hx : x < 2 ^ R) : xBits (nI x) = nI (bS one x R) := by
  have : 2 ^ R ≤ 2 ^ 12 := Nat.pow_le_pow_right (by omega) hR
  rw [xBits_nI (by omega), pcN_bS, show (20 : Nat) = R + (20 - R) by omega, bS_ext hx]
theorem hv_le {w : Nat → Nat} {R : Nat} (hw : ∀ r, r < R → w r ≤ 1000) : ∀ c L, hv w R c L ≤ 1000 * c
  | 0, _ => Nat.le_refl _
  | c + 1, L => by
    rw [hv_s]
    rcases bst_spec (w := w) L R with ⟨b1, b2⟩ | ⟨r, b1, b2, b3, b4⟩
    · rw [b1]; exact Nat.zero_le _
    · rw [b1]
      have := hv_le hw c (L ^^^ 2 ^ r)
      have := hw r b2
      show w r + hv w R c (L ^^^ 2 ^ r) ≤ _
      omega
theorem bS_wle {w : Nat → Nat} {R t : Nat} (hw : ∀ r, r < R → w r ≤ 1000) : ∀ n, n ≤ R → bS w t n ≤ 1000 * n
  | 0, _ => Nat.le_refl _
  | n + 1, h => by
    have := bS_wle (t := t) hw n (by omega)
    have := hw n (by omega)
    show bS w t n + (if t.testBit n = true then w n else 0) ≤ _
    split <;> omega
def eO (o : Option Nat) : Int32 := match o with
  | none => -1
  | some r => nI r
def eM (o : Option Nat) : Int32 := match o with
  | none => -1000000
  | some r => nI r
section WHY
variable {g : Nat → Nat → Int32} {N R b : Nat} {τ : aSt}
theorem gw_eq (hw : gW g N R) {r : Nat} (hr : r < R) : g 70 r = nI (gw g r) ∧ 1 ≤ gw g r ∧ gw g r ≤ 1000 := by
  obtain ⟨w, h1, h2, h3⟩ := hw.w70 hr
  unfold gw
  rw [h3, ix_cl (by omega)]
  exact ⟨rfl, h1, h2⟩
theorem xWt_nI (hw : gW g N R) {t : Nat} (ht : t < 2147483648) : xWt g R (nI t) = nI (bS (gw g) t R) := by
  have hR := hw.hR
  have key : ∀ n, n ≤ R → fSum (fun r => if xHas (nI t) (nI r) then g 70 r else 0) n = nI (bS (gw g) t n) := by
    intro n
    induction n with
    | zero => intro _; rfl
    | succ n ih =>
      intro hn
      rw [fSum_s, ih (by omega), xHas_nI ht (by omega)]
      show _ = nI (bS (gw g) t n + _)
      rw [← nI_add, (gw_eq hw (show n < R by omega)).1]
      congr 1
      by_cases q : t.testBit n = true
      · rw [if_pos q, if_pos q]
      · rw [if_neg q, if_neg q]
        rfl
  exact key R (Nat.le_refl _)
theorem xHold_rng (hw : gW g N R) (v : Nat → Int32) : ∃ s, s < 2 ^ R ∧ xHold g R v = nI s := by
  have hR := hw.hR
  refine fOr_rng (fun i hi => ?_)
  by_cases c : xAll g v i (g 71 i).toNatClampNeg = true
  · rw [if_pos c]
    exact ⟨2 ^ i, Nat.pow_lt_pow_right (by omega) hi, xBit_nI (by omega)⟩
  · rw [if_neg c]
    exact ⟨0, Nat.pow_pos (by omega), rfl⟩
theorem s_heav20 (hw : gW g N R) (h : cG g N R b τ) (rec8 : Nat → Int32 → Int32 → Int32 → Int32 → aSt → Option (Int32 × aSt)) (x2 x5 : Int32) {acc L : Nat} (hL : L < 4096) : ∀ (f k : Nat), k ≤ R → R < k + f → f_X8_heaviest_20 rec8 f b x2 (nI acc) (nI L) x5 (eO (bst (gw g) L k)) (nI k) τ = (match bst (gw g) L R with
    | none => some (nI acc, τ)
    | some r => rec8 b x2 (nI (acc + gw g r)) (nI (L ^^^ 2 ^ r)) (x5 + 1) τ) := by
  have hR := hw.hR
  have okb := h.okb
  obtain ⟨k0, k1, k2, k3, k4, k5, k6, l1, l2, l3, l4, l5, l6⟩ := bk_ok b h.hb
  have hb := h.hb
  have g2 : aSh (b + 2) = 13 ∧ b + 2 < gN τ := ⟨k2, by rw [h.gn]; omega⟩
  intro f
  induction f with
  | zero => intro k h1 h2; omega
  | succ f ih =>
    intro k h1 h2
    show f_X8_heaviest_20_b rec8 (f_X8_heaviest_20 rec8 f) b x2 (nI acc) (nI L) x5 (eO (bst (gw g) L k)) (nI k) τ = _
    unfold f_X8_heaviest_20_b f_X8_heaviest_62 f_X8_heaviest_66 f_X8_heaviest_105
    rw [if_pos okb, h.sz]
    by_cases e : k = R
    · subst e
      rw [if_pos (Int32.le_refl _)]
      rcases bst_spec (w := gw g) L k with ⟨b1, b2⟩ | ⟨r, b1, b2, b3, b4⟩
      · rw [b1]
        show (if 0 ≤ (-1 : Int32) then _ else _) = _
        rw [if_neg (by decide)]
      · rw [b1]
        show (if 0 ≤ nI r then (if aSh (b + 2) = 13 ∧ b + 2 < gN τ then (if inB (nI r) (aLn (b + 2)) then rec8 b x2 (nI acc + gI τ (b + 2) (nI r).toNatClampNeg) (nI L ^^^ ((1 : Int32) <<< (nI r &&& 31))) (x5 + 1) τ else none) else none) else _) = _
        rw [if_pos (nI_ge0 (by omega)), if_pos g2, l2, if_pos (ix_in (by omega) (by omega)), ix_cl (by omega), (h.rul b2).1, (gw_eq hw b2).1, nI_add, nb_xbit (by omega)]
    · have hk : k < R := by omega
      have z := ih (k + 1) (by omega) (by omega)
      rw [if_neg (fun q => by rw [nI_leI (by omega) (by omega)] at q; omega), nI_1]
      rw [bst_s] at z
      by_cases c : L.testBit k = true
      · rw [if_pos ((nb_on (by omega) (by omega)).mpr c)]
        rcases bst_spec (w := gw g) L k with ⟨b1, b2⟩ | ⟨r, b1, b2, b3, b4⟩
        · rw [b1] at z ⊢
          show (if (-1 : Int32) < 0 then _ else _) = _
          rw [if_pos (by decide)]
          simp only [if_pos c] at z
          exact z
        · rw [b1] at z ⊢
          show (if nI r < 0 then _ else (if aSh (b + 2) = 13 ∧ b + 2 < gN τ then (if inB (nI k) (aLn (b + 2)) then (if inB (nI r) (aLn (b + 2)) then (if gI τ (b + 2) (nI k).toNatClampNeg ≤ gI τ (b + 2) (nI r).toNatClampNeg then f_X8_heaviest_20 rec8 f b x2 (nI acc) (nI L) x5 (nI r) (nI (k + 1)) τ else f_X8_heaviest_20 rec8 f b x2 (nI acc) (nI L) x5 (nI k) (nI (k + 1)) τ) else none) else none) else none)) = _
          rw [if_neg (nI_neg (by omega)), if_pos g2, l2, if_pos (ix_in (by omega) (by omega)), if_pos (ix_in (by omega) (by omega)), ix_cl (by omega), ix_cl (by omega), (h.rul hk).1, (h.rul (show r < R by omega)).1, (gw_eq hw hk).1, (gw_eq hw (show r < R by omega)).1]
          have w1 := (gw_eq hw hk).2
          have w2 := (gw_eq hw (show r < R by omega)).2
          simp only [if_pos c] at z
          by_cases d : gw g k ≤ gw g r
          · rw [if_pos ((nI_leI (by omega) (by omega)).mpr d)]
            rw [if_pos d] at z
            exact z
          · rw [if_neg (fun q => d ((nI_leI (by omega) (by omega)).mp q))]
            rw [if_neg d] at z
            exact z
      · rw [if_neg (fun q => c ((nb_on (by omega) (by omega)).mp q))]
        rcases bst_spec (w := gw g) L k with ⟨b1, b2⟩ | ⟨r, b1, b2, b3, b4⟩
        · rw [b1] at z ⊢
          simp only [if_neg c] at z
          exact z
        · rw [b1] at z ⊢
          simp only [if_neg c] at z
          exact z
theorem s_heav8 (hw : gW g N R) (h : cG g N R b τ) {c : Nat} (hc : c ≤ 12) : ∀ (f i acc L : Nat), i ≤ c → c < i + f → L < 4096 → f_X8_heaviest_8 f b (nI c) (nI acc) (nI L) (nI i) τ = some (nI (acc + hv (gw g) R (c - i) L), τ) := by
  have hR := hw.hR
  intro f
  induction f with
  | zero => intro i acc L h1 h2; omega
  | succ f ih =>
    intro i acc L h1 h2 hL
    show f_X8_heaviest_8_b (f_X8_heaviest_8 f) b (nI c) (nI acc) (nI L) (nI i) τ = _
    unfold f_X8_heaviest_8_b f_X8_heaviest_105
    by_cases e : i = c
    · subst e
      rw [if_pos (Int32.le_refl _), Nat.sub_self]
      rfl
    · rw [if_neg (fun q => by rw [nI_leI (by omega) (by omega)] at q; omega), show f_X8_heaviest_20 (f_X8_heaviest_8 f) aN b (nI c) (nI acc) (nI L) (nI i) (-1) 0 τ = _ from s_heav20 hw h (f_X8_heaviest_8 f) (nI c) (nI i) hL aN 0 (by omega) (by show R < 0 + 1000000; omega), show c - i = (c - (i + 1)) + 1 by omega, hv_s]
      rcases bst_spec (w := gw g) L R with ⟨b1, b2⟩ | ⟨r, b1, b2, b3, b4⟩
      · rw [b1]
        rfl
      · rw [b1]
        have hL' : L ^^^ 2 ^ r < 2 ^ 12 := Nat.xor_lt_two_pow hL (Nat.pow_lt_pow_right (by omega) (by omega))
        show f_X8_heaviest_8 f b (nI c) (nI (acc + gw g r)) (nI (L ^^^ 2 ^ r)) (nI i + 1) τ = some (nI (acc + (gw g r + hv (gw g) R (c - (i + 1)) (L ^^^ 2 ^ r))), τ)
        rw [nI_1, ih (i + 1) _ _ (by omega) (by omega) hL', Nat.add_assoc]
theorem s_heaviest (hw : gW g N R) (h : cG g N R b τ) {c L : Nat} (hc : c ≤ 12) (hL : L < 4096) : f_X8_heaviest b (nI L) (nI c) τ = some (nI (hv (gw g) R c L), τ) := by
  have := s_heav8 hw h hc aN 0 0 L (by omega) (by show c < 0 + 1000000; omega) hL
  rw [Nat.zero_add, Nat.sub_zero] at this
  exact this
theorem hv_cmp (hw : gW g N R) {c L : Nat} (hc : c ≤ 12) (n : Int32) : (n ≤ nI (hv (gw g) R c L)) ↔ (n.toInt ≤ hv (gw g) R c L) := by
  have := hv_le (w := gw g) (R := R) (fun r hr => (gw_eq hw hr).2.2) c L
  rw [pi_le, pi_nI (by omega)]
theorem s_reach (hw : gW g N R) (h : cG g N R b τ) {L : Nat} (hL : L < 4096) (n : Int32) : ∀ (f k m : Nat), k + m = R → k < f → f_X8_fewestThatReach_2 f b (nI L) n (nI m) τ = some (nI (ft (gw g) R L n.toInt k m), τ) := by
  have hR := hw.hR
  have okb := h.okb
  intro f
  induction f with
  | zero => intro k m h1 h2; omega
  | succ f ih =>
    intro k m h1 h2
    show f_X8_fewestThatReach_2_b (f_X8_fewestThatReach_2 f) b (nI L) n (nI m) τ = _
    unfold f_X8_fewestThatReach_2_b f_X8_fewestThatReach_26
    rw [if_pos okb, h.sz]
    cases k with
    | zero =>
      rw [if_pos ((nI_leI (by omega) (by omega)).mpr (by omega))]
      rfl
    | succ k =>
      rw [if_neg (fun q => by rw [nI_leI (by omega) (by omega)] at q; omega), if_pos okb, s_heaviest hw h (by omega) hL]
      simp only [Option.bind_some]
      show _ = some (nI (if n.toInt ≤ hv (gw g) R m L then m else ft (gw g) R L n.toInt k (m + 1)), τ)
      by_cases c : n.toInt ≤ hv (gw g) R m L
      · rw [if_pos ((hv_cmp hw (by omega) n).mpr c), if_pos c]
      · rw [if_neg (fun q => c ((hv_cmp hw (by omega) n).mp q)), if_neg c, nI_1]
        exact ih k (m + 1) (by omega) (by omega)
theorem s_few24 (hw : gW g N R) (h : cG g N R b τ) : ∀ (f k c L P : Nat) (n : Int32), k ≤ R → k < f → c ≤ 12 → L < 4096 → -1000 * (12 - k) ≤ n.toInt → n.toInt ≤ 20000 → f_X8_fewest_24 f b (nI c) (nI L) n (nI P) (nI k - 1) τ = some (nI (P ||| gr (gw g) R k c L n.toInt), τ) := by
  have hR := hw.hR
  have okb := h.okb
  obtain ⟨k0, k1, k2, k3, k4, k5, k6, l1, l2, l3, l4, l5, l6⟩ := bk_ok b h.hb
  have hb := h.hb
  have g2 : aSh (b + 2) = 13 ∧ b + 2 < gN τ := ⟨k2, by rw [h.gn]; omega⟩
  intro f
  induction f with
  | zero => intro k c L P n h1 h2; omega
  | succ f ih =>
    intro k c L P n h1 h2 h3 h4 h5 h6
    show f_X8_fewest_24_b (f_X8_fewest_24 f) b (nI c) (nI L) n (nI P) (nI k - 1) τ = _
    unfold f_X8_fewest_24_b f_X8_fewest_91 f_X8_fewest_97
    cases k with
    | zero =>
      rw [if_pos (by decide)]
      show some (nI P, τ) = some (nI (P ||| 0), τ)
      rw [Nat.or_zero]
    | succ k =>
      rw [nI_s1, if_neg (nI_neg (by omega))]
      show _ = some (nI (P ||| (if c = 0 then 0 else if L.testBit k = true then (if n.toInt ≤ hv (gw g) R c (L ^^^ 2 ^ k) then gr (gw g) R k c (L ^^^ 2 ^ k) n.toInt else gr (gw g) R k (c - 1) (L ^^^ 2 ^ k) (n.toInt - gw g k) ||| 2 ^ k) else gr (gw g) R k c L n.toInt)), τ)
      have em : nI k + (-1) = nI k - 1 := (Int32.sub_eq_add_neg ..).symm
      by_cases c0 : c = 0
      · subst c0
        rw [if_pos (show nI 0 ≤ 0 from Int32.le_refl _), if_pos rfl, Nat.or_zero]
      · rw [if_neg (nI_nle (by omega) (by omega)), if_neg c0, em]
        by_cases hb2 : L.testBit k = true
        case neg =>
          have hb' : L.testBit k = false := by
            cases q : L.testBit k with
            | true => exact absurd q hb2
            | false => rfl
          rw [if_pos ((nb_off (by omega) (by omega)).mpr hb'), if_neg hb2]
          exact ih k c L P n (by omega) (by omega) h3 h4 (by omega) h6
        have hL' : L ^^^ 2 ^ k < 4096 := Nat.xor_lt_two_pow (show L < 2 ^ 12 from h4) (Nat.pow_lt_pow_right (by omega) (by omega))
        rw [if_neg (fun q => by rw [nb_off (by omega) (by omega), hb2] at q; cases q), if_pos hb2, if_pos okb, nb_xbit (by omega), s_heaviest hw h h3 hL']
        simp only [Option.bind_some]
        by_cases d : n.toInt ≤ hv (gw g) R c (L ^^^ 2 ^ k)
        · rw [if_pos ((hv_cmp hw h3 n).mpr d), if_pos d]
          exact ih k c _ P n (by omega) (by omega) h3 hL' (by omega) h6
        · rw [if_neg (fun q => d ((hv_cmp hw h3 n).mp q)), if_neg d, if_pos okb, if_pos g2, l2, if_pos (ix_in (by omega) (by omega)), ix_cl (by omega), (h.rul (show k < R by omega)).1, (gw_eq hw (show k < R by omega)).1, nb_obit (by omega)]
          have wk := (gw_eq hw (show k < R by omega)).2
          obtain ⟨c', rfl⟩ : ∃ c', c = c' + 1 := ⟨c - 1, by omega⟩
          have en : (n - nI (gw g k)).toInt = n.toInt - gw g k := by
            rw [pi_sub (by rw [pi_nI (by omega)]; omega) (by rw [pi_nI (by omega)]; omega), pi_nI (by omega)]
          rw [nI_mm, ih k c' _ _ (n - nI (gw g k)) (by omega) (by omega) (by omega) hL' (by rw [en]; omega) (by rw [en]; omega), en, Nat.add_sub_cancel, Nat.or_assoc, Nat.or_comm (2 ^ k)]
theorem s_fewest (hw : gW g N R) (h : cG g N R b τ) {L : Nat} (hL : L < 4096) (n : Int32) (hn : 0 ≤ n.toInt) (hn2 : n.toInt ≤ 20000) : f_X8_fewest b (nI L) n τ = some (nI (gr (gw g) R R (ft (gw g) R L n.toInt R 0) L n.toInt), τ) := by
  have hR := hw.hR
  have okb := h.okb
  unfold f_X8_fewest f_X8_fewestThatReach
  rw [if_pos okb, show f_X8_fewestThatReach_2 aN b (nI L) n 0 τ = _ from s_reach hw h hL n aN R 0 (by omega) (by show R < 1000000; omega)]
  simp only [Option.bind_some]
  have f1 := (ft_spec (w := gw g) (R := R) (L := L) (n := n.toInt) R 0 (by omega) (fun j hj => absurd hj (Nat.not_lt_zero _))).1
  rw [if_pos okb, h.sz]
  have := s_few24 hw h aN R (ft (gw g) R L n.toInt R 0) L 0 n (Nat.le_refl _) (by show R < 1000000; omega) (by omega) hL (by omega) hn2
  rw [Nat.zero_or] at this
  exact this
theorem bm_s {w : Nat → Nat} {R s : Nat} {n : Int} {x : Nat} : bm w R s n (x + 1) = if (x &&& (s ^^^ 4294967295)) = 0 ∧ n ≤ bS w x R then (match bm w R s n x with
    | none => some x
    | some y => if bS one y R ≤ bS one x R then some y else some x) else bm w R s n x := rfl
theorem nm_0 {x m : Nat} (hx : x < 2147483648) : (nI (x &&& m) = 0) ↔ (x &&& m) = 0 := by
  have hle : x &&& m ≤ x := Nat.and_le_left
  exact ⟨fun q => nI_inj (by omega) (by omega) (show nI _ = nI 0 from q), fun q => by rw [q]; rfl⟩
theorem eM_n : eM none = -1000000 := rfl
theorem eM_s (y : Nat) : eM (some y) = nI y := rfl
theorem bm_yes {w : Nat → Nat} {R s : Nat} {n : Int} (hR : R ≤ 12) {x : Nat} (hx : x < 2 ^ R) : bm w R s n x = none ∨ ∃ y, bm w R s n x = some y ∧ y < 2 ^ R := by
  have h12 : 2 ^ R ≤ 2 ^ 12 := Nat.pow_le_pow_right (by omega) hR
  rcases bm_spec (w := w) (R := R) (s := s) (n := n) x (by omega) with ⟨b1, b2⟩ | ⟨y, b1, b2, b3, b4⟩
  · exact Or.inl b1
  · exact Or.inr ⟨y, b1, by omega⟩
theorem s_bitsR {x R : Nat} (hR : R ≤ 12) (hx : x < 2 ^ R) (τ : aSt) : f_X12_bits (nI x) τ = some (nI (bS one x R), τ) := by
  rw [s_bits, xBits_R hR hx]
theorem s_why34 (hw : gW g N R) (h : Ag g τ) {s : Nat} (hs : s < 2 ^ R) {act : Int32} (ha : ¬ act ≤ 0) (n : Int32) : ∀ (f x : Nat), x ≤ 2 ^ R → 2 ^ R < x + f → f_X12_whyOf_34 f (nI s) act n (eM (bm (gw g) R s n.toInt x)) (nI x) τ = f_X12_whyOf_98 (eM (bm (gw g) R s n.toInt (2 ^ R))) τ := by
  have hR := hw.hR
  have h12 : 2 ^ R ≤ 2 ^ 12 := Nat.pow_le_pow_right (by omega) hR
  intro f
  induction f with
  | zero => intro x h1 h2; omega
  | succ f ih =>
    intro x h1 h2
    show f_X12_whyOf_34_b (f_X12_whyOf_34 f) (nI s) act n (eM (bm (gw g) R s n.toInt x)) (nI x) τ = _
    unfold f_X12_whyOf_34_b f_X12_whyOf_88 f_X12_whyOf_92
    rw [h.c (by omega), hw.n20, nb_bit (by omega)]
    by_cases e : x = 2 ^ R
    · rw [if_pos ((nI_leI (by omega) (by omega)).mpr (by omega)), e]
    · have hx : x < 2 ^ R := by omega
      rw [if_neg (fun q => by rw [nI_leI (by omega) (by omega)] at q; omega), if_neg ha, mk_m1, nb_xor, nb_and, nI_1]
      have z := ih (x + 1) (by omega) (by omega)
      rw [bm_s] at z
      generalize s ^^^ 4294967295 = m4 at z ⊢
      have ez := nm_0 (x := x) (m := m4) (by omega)
      have hbw := bS_wle (w := gw g) (R := R) (t := x) (fun r hr => (gw_eq hw hr).2.2) R (Nat.le_refl _)
      by_cases c : (x &&& m4) = 0
      case neg =>
        rw [if_neg (fun q => c (ez.mp q))]
        rw [if_neg (fun q => c q.1)] at z
        exact z
      rw [if_pos (ez.mpr c), s_weightOf hw h, xWt_nI hw (by omega)]
      simp only [Option.bind_some]
      have el : (nI (bS (gw g) x R) < n) ↔ ¬ n.toInt ≤ bS (gw g) x R := by
        rw [pi_lt, pi_nI (by omega)]
        omega
      by_cases d : n.toInt ≤ bS (gw g) x R
      case neg =>
        rw [if_pos (el.mpr d)]
        rw [if_neg (fun q => d q.2)] at z
        exact z
      rw [if_neg (fun q => (el.mp q) d)]
      rw [if_pos ⟨c, d⟩] at z
      rcases bm_yes (w := gw g) (s := s) (n := n.toInt) hR hx with b1 | ⟨y, b1, hy⟩
      · rw [b1] at z ⊢
        rw [if_pos eM_n]
        exact z
      · rw [b1] at z ⊢
        have hyn : ¬ nI y = -1000000 := nI_noNone (by omega)
        have p1 := bS_le x R
        have p2 := bS_le y R
        rw [eM_s, if_neg hyn, s_bitsR hR hx, Option.bind_some, s_bitsR hR hy, Option.bind_some]
        by_cases k : bS one y R ≤ bS one x R
        · rw [if_pos ((nI_leI (by omega) (by omega)).mpr k)]
          simp only [if_pos k] at z
          exact z
        · rw [if_neg (fun q => k ((nI_leI (by omega) (by omega)).mp q))]
          simp only [if_neg k] at z
          exact z
/-- the least set, as data -/
def xWhy (g : Nat → Nat → Int32) (R : Nat) (s : Int32) : Int32 := if xAct g (xWt g R s) = 0 then 0 else nI (gr (gw g) R R (ft (gw g) R s.toNatClampNeg (if xAct g (xWt g R s) = 2 then g 57 18 else g 57 17).toInt R 0) s.toNatClampNeg (if xAct g (xWt g R s) = 2 then g 57 18 else g 57 17).toInt)
theorem xAct_3 (g : Nat → Nat → Int32) (sc : Int32) : (xAct g sc = 2 ∧ g 57 18 ≤ sc) ∨ (xAct g sc = 1 ∧ g 57 17 ≤ sc) ∨ xAct g sc = 0 := by
  unfold xAct
  by_cases c : g 57 18 ≤ sc
  · rw [if_pos c]; exact Or.inl ⟨rfl, c⟩
  · rw [if_neg c]
    by_cases d : g 57 17 ≤ sc
    · rw [if_pos d]; exact Or.inr (Or.inl ⟨rfl, d⟩)
    · rw [if_neg d]; exact Or.inr (Or.inr rfl)
theorem xNeed (hw : gW g N R) {s : Nat} (hs : s < 2 ^ R) (h0 : ¬ xAct g (xWt g R (nI s)) = 0) : 0 ≤ (if xAct g (xWt g R (nI s)) = 2 then g 57 18 else g 57 17).toInt ∧ (if xAct g (xWt g R (nI s)) = 2 then g 57 18 else g 57 17).toInt ≤ 20000 ∧ (if xAct g (xWt g R (nI s)) = 2 then g 57 18 else g 57 17).toInt ≤ bS (gw g) s R := by
  have hR := hw.hR
  have h12 : 2 ^ R ≤ 2 ^ 12 := Nat.pow_le_pow_right (by omega) hR
  obtain ⟨w, d, l, k, q1, q2, q3, q4, q5, q6, q7, q8, q9, q10⟩ := hw.lim
  have hbw := bS_wle (w := gw g) (R := R) (t := s) (fun r hr => (gw_eq hw hr).2.2) R (Nat.le_refl _)
  have e := xWt_nI hw (t := s) (by omega)
  rcases xAct_3 g (xWt g R (nI s)) with ⟨a1, a2⟩ | ⟨a1, a2⟩ | a1
  · rw [if_pos a1, q10, pi_nI (by omega)]
    rw [e, q10, nI_leI (by omega) (by omega)] at a2
    omega
  · rw [if_neg (by rw [a1]; decide), q9, pi_nI (by omega)]
    rw [e, q9, nI_leI (by omega) (by omega)] at a2
    omega
  · exact absurd a1 h0
theorem s_whyM (hw : gW g N R) (h : Ag g τ) {s : Nat} (hs : s < 2 ^ R) : f_X12_whyOf (nI s) τ = some (xWhy g R (nI s), τ) := by
  have hR := hw.hR
  have h12 : 2 ^ R ≤ 2 ^ 12 := Nat.pow_le_pow_right (by omega) hR
  unfold f_X12_whyOf
  rw [s_weightOf hw h]
  simp only [Option.bind_some]
  rw [s_actBy h]
  simp only [Option.bind_some]
  rw [h.c (by omega), h.c (by omega)]
  have e : (if xAct g (xWt g R (nI s)) = 2 then f_X12_whyOf_26 (nI s) (xAct g (xWt g R (nI s))) (g 57 18) τ else f_X12_whyOf_26 (nI s) (xAct g (xWt g R (nI s))) (g 57 17) τ) = f_X12_whyOf_26 (nI s) (xAct g (xWt g R (nI s))) (if xAct g (xWt g R (nI s)) = 2 then g 57 18 else g 57 17) τ := by
    by_cases c : xAct g (xWt g R (nI s)) = 2
    · rw [if_pos c, if_pos c]
    · rw [if_neg c, if_neg c]
  rw [e]
  unfold f_X12_whyOf_26 xWhy
  by_cases c : xAct g (xWt g R (nI s)) = 0
  · rw [if_pos c, c]
    show f_X12_whyOf_34_b (f_X12_whyOf_34 999999) (nI s) 0 _ (-1000000) 0 τ = _
    unfold f_X12_whyOf_34_b f_X12_whyOf_98 f_X12_whyOf_111
    rw [if_pos (show (0 : Int32) ≤ 0 from Int32.le_refl _)]
    split <;> rfl
  · rw [if_neg c, ix_cl (by omega)]
    obtain ⟨n1, n2, n3⟩ := xNeed hw hs c
    have ha : ¬ xAct g (xWt g R (nI s)) ≤ 0 := by
      rcases xAct_3 g (xWt g R (nI s)) with ⟨a1, -⟩ | ⟨a1, -⟩ | a1
      · rw [a1]; decide
      · rw [a1]; decide
      · exact absurd a1 c
    generalize (if xAct g (xWt g R (nI s)) = 2 then g 57 18 else g 57 17) = n at *
    rw [show f_X12_whyOf_34 aN (nI s) (xAct g (xWt g R (nI s))) n (-1000000) 0 τ = _ from s_why34 hw h hs ha n aN 0 (Nat.zero_le _) (by show 2 ^ R < 0 + 1000000; omega), few_same hR hs n3]
    unfold f_X12_whyOf_98 f_X12_whyOf_111
    have hB : gr (gw g) R R (ft (gw g) R s n.toInt R 0) s n.toInt < 2 ^ R := by
      rcases bm_spec (w := gw g) (R := R) (s := s) (n := n.toInt) (2 ^ R) (by omega) with ⟨b1, b2⟩ | ⟨y, b1, b2, b3, b4⟩
      · rw [few_same hR hs n3] at b1; cases b1
      · rw [few_same hR hs n3] at b1
        injection b1 with b1
        rw [b1]
        exact b2
    rw [if_neg (show ¬ eM (some _) = -1000000 from nI_noNone (by omega))]
    rfl
theorem s_why (hw : gW g N R) (h : cK g N R b τ) {n kn : Nat} (hn : n < N) (hk : kn < 2) : ∃ τ', f_X2_whyOf (84 + n) (nI kn) τ = some (xWhy g R (xSet g N R n kn (g 65 n)), τ') ∧ Fr cSl τ τ' ∧ cK g N R b τ' := by
  have hR := hw.hR
  have h12 : 2 ^ R ≤ 2 ^ 12 := Nat.pow_le_pow_right (by omega) hR
  obtain ⟨s, hs, es⟩ := xHold_rng hw (xFeat g N n kn (g 65 n))
  have es : xSet g N R n kn (g 65 n) = nI s := es
  obtain ⟨τ1, a1, a2, -, a3⟩ := s_actOf hw h hn hk
  obtain ⟨τ2, b1, b2, -, b3⟩ := s_heldBy hw a3 hn hk
  rw [es] at a1 b1 ⊢
  unfold f_X2_whyOf xWhy
  rw [a1]
  simp only [Option.bind_some]
  by_cases c : xAct g (xWt g R (nI s)) = 0
  · rw [if_pos c, if_pos c]
    exact ⟨τ1, rfl, a2, a3⟩
  rw [if_neg c, if_neg c, b1]
  simp only [Option.bind_some]
  rw [b3.1.r11]
  simp only [oC_some]
  rw [if_pos b3.1.okb, a3.1.r11]
  refine ⟨τ2, ?_, a2.tr b2, b3⟩
  obtain ⟨k0, k1, k2, k3, k4, k5, k6, l1, l2, l3, l4, l5, l6⟩ := bk_ok b h.1.hb
  have hb := h.1.hb
  have g1 : aSh (b + 1) = 13 ∧ b + 1 < gN τ2 := ⟨k1, by rw [b3.1.gn]; omega⟩
  have e40 : ∀ j : Nat, j < 4 → f_X2_whyOf_40 (some b) (nI s) (b + 1) (nI j) τ2 = (f_X8_fewest b (nI s) (gI τ2 (b + 1) j) τ2).bind (fun q14 => some (q14.1, q14.2)) := fun j hj => by
    unfold f_X2_whyOf_40
    rw [if_pos g1, l1, if_pos (ix_in hj (by omega)), ix_cl (by omega)]
    simp only [oC_some]
    rw [if_pos b3.1.okb]
  obtain ⟨lm0, lm1, lm2, lm3⟩ := b3.1.lim
  have e : (if xAct g (xWt g R (nI s)) = 2 then f_X2_whyOf_40 (some b) (nI s) (b + 1) 3 τ2 else f_X2_whyOf_40 (some b) (nI s) (b + 1) 2 τ2) = (f_X8_fewest b (nI s) (if xAct g (xWt g R (nI s)) = 2 then g 57 18 else g 57 17) τ2).bind (fun q14 => some (q14.1, q14.2)) := by
    by_cases d : xAct g (xWt g R (nI s)) = 2
    · rw [if_pos d, if_pos d, ← lm3]
      exact e40 3 (by omega)
    · rw [if_neg d, if_neg d, ← lm2]
      exact e40 2 (by omega)
  rw [e]
  obtain ⟨n1, n2, n3⟩ := xNeed hw hs c
  rw [s_fewest hw b3.1 (by omega) _ n1 n2, ix_cl (by omega)]
  rfl
end WHY
