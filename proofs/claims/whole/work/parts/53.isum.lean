/-! ===== sums of whole numbers, and their longs ===== -/
def iSum (h : Nat → Int) : Nat → Int
  | 0 => 0
  | n + 1 => iSum h n + h n
theorem iSum_s (h : Nat → Int) (n : Nat) : iSum h (n + 1) = iSum h n + h n := rfl
theorem iSum_list (g : Nat → Int) : ∀ n, iSum g n = (List.range n).foldl (fun a i => a + g i) 0
  | 0 => rfl
  | n + 1 => by rw [List.range_succ, List.foldl_append, ← iSum_list g n]; rfl
theorem iSum_perm {N : Nat} {o : Nat → Nat} (h1 : ∀ i, i < N → o i < N) (h2 : ∀ i j, i < N → j < N → o i = o j → i = j) (g : Nat → Int) : iSum (fun i => g (o i)) N = iSum g N := by
  rw [iSum_list, iSum_list, ← (pm_perm h1 h2).foldl_eq' (f := fun a i => a + g i) (fun x _ y _ z => by omega) 0, List.foldl_map]
theorem iSum_congr {g g' : Nat → Int} : ∀ {n : Nat}, (∀ i, i < n → g i = g' i) → iSum g n = iSum g' n
  | 0, _ => rfl
  | n + 1, h => by
    rw [iSum_s, iSum_s, iSum_congr (fun i hi => h i (by omega)), h n (by omega)]
theorem iSum_add (f h : Nat → Int) : ∀ n, iSum (fun i => f i + h i) n = iSum f n + iSum h n
  | 0 => rfl
  | n + 1 => by
    rw [iSum_s, iSum_s, iSum_s, iSum_add f h n]
    omega
theorem iSum_rng {h : Nat → Int} {B : Int} : ∀ {n : Nat}, (∀ i, i < n → -B ≤ h i ∧ h i ≤ B) → -(B * n) ≤ iSum h n ∧ iSum h n ≤ B * n
  | 0, _ => by
    show -(B * ((0 : Nat) : Int)) ≤ 0 ∧ (0 : Int) ≤ B * ((0 : Nat) : Int)
    simp
  | n + 1, hh => by
    have h1 := iSum_rng (h := h) (B := B) (n := n) (fun i hi => hh i (by omega))
    have h2 := hh n (by omega)
    rw [iSum_s]
    have e : B * ((n + 1 : Nat) : Int) = B * (n : Int) + B := by
      rw [Int.natCast_succ, Int.mul_add, Int.mul_one]
    rw [e]
    generalize B * (n : Int) = X at *
    omega
def wI (z : Int) : Int64 := Int64.ofInt z
theorem wI_add (a b : Int) : wI a + wI b = wI (a + b) := (Int64.ofInt_add a b).symm
theorem wI_toInt {z : Int} (h1 : -9000000000000000000 ≤ z) (h2 : z ≤ 9000000000000000000) : (wI z).toInt = z := Int64.toInt_ofInt_of_le (by omega) (by omega)
theorem wI_32 (x : Int32) : x.toInt64 = wI x.toInt := by
  have := pi_rng x
  rw [pl_eq, pi_wide, wI_toInt (by omega) (by omega)]
theorem wI_lt {a b : Int} (a1 : -1000000000000 ≤ a) (a2 : a ≤ 1000000000000) (b1 : -1000000000000 ≤ b) (b2 : b ≤ 1000000000000) : wI a < wI b ↔ a < b := by
  rw [pl_lt, wI_toInt (by omega) (by omega), wI_toInt (by omega) (by omega)]
theorem wI_le {a b : Int} (a1 : -1000000000000 ≤ a) (a2 : a ≤ 1000000000000) (b1 : -1000000000000 ≤ b) (b2 : b ≤ 1000000000000) : wI a ≤ wI b ↔ a ≤ b := by
  rw [pl_le, wI_toInt (by omega) (by omega), wI_toInt (by omega) (by omega)]
theorem wI_eq {a b : Int} (a1 : -1000000000000 ≤ a) (a2 : a ≤ 1000000000000) (b1 : -1000000000000 ≤ b) (b2 : b ≤ 1000000000000) : wI a = wI b ↔ a = b := by
  rw [pl_eq, wI_toInt (by omega) (by omega), wI_toInt (by omega) (by omega)]
/-! sets of rules: what a set costs -/
def xH (g : Nat → Nat → Int32) (N R n : Nat) : Int32 := xSet g N R n 0 (g 65 n)
/-- what one payment costs under a set -/
def xPc (g : Nat → Nat → Int32) (N R : Nat) (vd : Nat → Int32) (c0 : Int32) (set odd : Int32) (n : Nat) : Int := if vd n = -1000000 then 0 else if g 61 n - g 61 n / 2 * 2 = odd then (if vd n = 1 then (if xH g N R n &&& set = 0 then (g 65 n).toInt else 0) else (if xH g N R n &&& set = 0 then 0 else c0.toInt)) else 0
def cVd (N : Nat) (vd : Nat → Int32) : Prop := ∀ n, n < N → vd n = -1000000 ∨ vd n = 0 ∨ vd n = 1
section PS
variable {g : Nat → Nat → Int32} {N R b : Nat} {vd : Nat → Int32} {c0 : Int32}
theorem wI_0 : (0 : Int64) = wI 0 := rfl
theorem s_priceL (hw : gW g N R) (hv3 : cVd N vd) (set odd : Int32) : ∀ (f k : Nat) (τ : aSt), cK g N R b τ → k ≤ N → N < k + f → (∀ n, n < N → gI τ (84 + n) 7 = vd n) → gI τ 26 0 = c0 → ∃ τ', f_X5_priceOfSet_5 f set odd (wI (iSum (fun j => xPc g N R vd c0 set odd (xOrd g j)) k)) (nI k) τ = some (wI (iSum (fun j => xPc g N R vd c0 set odd (xOrd g j)) N), τ') ∧ Fr cSl τ τ' ∧ cK g N R b τ' := by
  have hN := hw.hN
  intro f
  induction f with
  | zero => intro k τ _ h1 h2; omega
  | succ f ih =>
    intro k τ hk h1 h2 hv hc0
    show ∃ τ', f_X5_priceOfSet_5_b (f_X5_priceOfSet_5 f) set odd (wI (iSum (fun j => xPc g N R vd c0 set odd (xOrd g j)) k)) (nI k) τ = _ ∧ _
    unfold f_X5_priceOfSet_5_b f_X5_priceOfSet_126
    rw [hk.1.n2]
    by_cases z : k = N
    · subst z
      rw [if_pos (Int32.le_refl _)]
      exact ⟨τ, rfl, Fr.rf, hk⟩
    rw [if_neg (fun q => z (by rw [nI_leI (by omega) (by omega)] at q; omega)), s_inOrd hw hk.1 (show k < N by omega)]
    simp only [Option.bind_some, oC_some]
    have hp : xOrd g k < N := hw.olt k (by omega)
    have ihk := ih (k + 1)
    rw [iSum_s, ← wI_add] at ihk
    generalize iSum (fun j => xPc g N R vd c0 set odd (xOrd g j)) k = A at *
    generalize xOrd g k = p at *
    obtain ⟨p0, -, -, -, -, -, -⟩ := hk.1.pay hp
    rw [if_pos (hk.1.ok hp), hv p hp, p0, nI_1]
    by_cases c : vd p = -1000000
    · rw [if_pos c]
      have e0 : xPc g N R vd c0 set odd p = 0 := by unfold xPc; rw [if_pos c]
      rw [e0, wI_add, Int.add_zero] at ihk
      exact ihk τ hk (by omega) (by omega) hv hc0
    rw [if_neg c]
    by_cases d : g 61 p - g 61 p / 2 * 2 = odd
    case neg =>
      rw [if_neg d]
      have e0 : xPc g N R vd c0 set odd p = 0 := by unfold xPc; rw [if_neg c, if_neg d]
      rw [e0, wI_add, Int.add_zero] at ihk
      exact ihk τ hk (by omega) (by omega) hv hc0
    rw [if_pos d]
    obtain ⟨τ1, a1, a2, -, a3⟩ := s_heldBy hw hk hp (kn := 0) (by omega)
    have hv1 : ∀ n, n < N → gI τ1 (84 + n) 7 = vd n := fun n hn => by rw [a2.2.1 _ _ (by unfold cSl; omega)]; exact hv n hn
    have hc1 : gI τ1 26 0 = c0 := by rw [a2.2.1 26 0 (by unfold cSl; omega)]; exact hc0
    rw [show f_X2_heldBy (84 + p) 0 τ = _ from a1, Option.bind_some]
    have eH : xSet g N R p 0 (g 65 p) = xH g N R p := rfl
    rw [eH]
    obtain ⟨-, -, -, -, p4, -, -⟩ := a3.1.pay hp
    have go : ∀ v : Int, xPc g N R vd c0 set odd p = v → ∃ τ', f_X5_priceOfSet_5 f set odd (wI A + wI v) (nI (k + 1)) τ1 = some (wI (iSum (fun j => xPc g N R vd c0 set odd (xOrd g j)) N), τ') ∧ Fr cSl τ τ' ∧ cK g N R b τ' := by
      intro v hvv
      rw [hvv] at ihk
      obtain ⟨τ2, k1, k2, k3⟩ := ihk τ1 a3 (by omega) (by omega) hv1 hc1
      exact ⟨τ2, k1, a2.tr k2, k3⟩
    have go0 : xPc g N R vd c0 set odd p = 0 → ∃ τ', f_X5_priceOfSet_5 f set odd (wI A) (nI (k + 1)) τ1 = some (wI (iSum (fun j => xPc g N R vd c0 set odd (xOrd g j)) N), τ') ∧ Fr cSl τ τ' ∧ cK g N R b τ' := by
      intro hvv
      have := go 0 hvv
      rw [wI_add, Int.add_zero] at this
      exact this
    have ex : xPc g N R vd c0 set odd p = (if vd p = 1 then (if xH g N R p &&& set = 0 then (g 65 p).toInt else 0) else (if xH g N R p &&& set = 0 then 0 else c0.toInt)) := by
      unfold xPc
      rw [if_neg c, if_pos d]
    unfold f_X5_priceOfSet_77 f_X5_priceOfSet_105 f_X5_priceOfSet_126
    simp only [if_pos (a3.1.ok hp), hv1 p hp, p4, hc1, wI_32, nI_1]
    by_cases q : xH g N R p &&& set = 0
    · rw [if_pos q]
      by_cases v1 : vd p = 1
      · rw [if_pos v1, if_pos trivial]
        exact go _ (by rw [ex, if_pos v1, if_pos q])
      · rw [if_neg v1]
        have e0 := go0 (by rw [ex, if_neg v1, if_pos q])
        by_cases v0 : vd p = 0
        · rw [if_pos v0, if_pos trivial]
          exact e0
        · rw [if_neg v0]
          exact e0
    · rw [if_neg q]
      by_cases v1 : vd p = 1
      · rw [if_pos v1, if_neg (by decide), if_neg (by rw [v1]; decide)]
        exact go0 (by rw [ex, if_pos v1, if_neg q])
      · rw [if_neg v1]
        have v0 : vd p = 0 := by
          rcases hv3 p hp with w | w | w
          · exact absurd w c
          · exact w
          · exact absurd w v1
        rw [if_pos v0, if_neg (by decide)]
        exact go _ (by rw [ex, if_neg v1, if_neg q])
theorem s_price (hw : gW g N R) (hv3 : cVd N vd) (set odd : Int32) {τ : aSt} (h : cK g N R b τ) (hv : ∀ n, n < N → gI τ (84 + n) 7 = vd n) (hc0 : gI τ 26 0 = c0) : ∃ τ', f_X5_priceOfSet set odd τ = some (wI (iSum (xPc g N R vd c0 set odd) N), τ') ∧ Fr cSl τ τ' ∧ cK g N R b τ' := by
  have hN := hw.hN
  have := s_priceL hw hv3 set odd aN 0 τ h (by omega) (by show N < 0 + 1000000; omega) hv hc0
  rw [iSum_perm hw.olt hw.oinj (xPc g N R vd c0 set odd)] at this
  exact this
theorem s_holdsL (hw : gW g N R) : ∀ (f k : Nat) (τ : aSt), Ag g τ → k ≤ N → N < k + f → (∀ n, n < N → gI τ 67 n = vd n) → (∀ n, n < k → gI τ 81 n = if vd n = -1000000 then 0 else xH g N R n) → ∃ τ', f_X12_findHolds_2 f (nI k) τ = some ((), τ') ∧ Fr (fun a _ => a = 69 ∨ a = 81) τ τ' ∧ (∀ n, n < N → gI τ' 81 n = if vd n = -1000000 then 0 else xH g N R n) := by
  have hN := hw.hN
  intro f
  induction f with
  | zero => intro k τ _ h1 h2; omega
  | succ f ih =>
    intro k τ hk h1 h2 hv hh
    show ∃ τ', f_X12_findHolds_2_b (f_X12_findHolds_2 f) (nI k) τ = _ ∧ _
    unfold f_X12_findHolds_2_b f_X12_findHolds_42
    rw [hk.c (by omega), hw.n5]
    by_cases z : k = N
    · subst z
      rw [if_pos (Int32.le_refl _)]
      exact ⟨τ, rfl, Fr.rf, hh⟩
    have ib : inB (nI k) 120 := ix_in (by omega) (by omega)
    have cl : (nI k).toNatClampNeg = k := ix_cl (by omega)
    rw [if_neg (fun q => z (by rw [nI_leI (by omega) (by omega)] at q; omega)), if_pos ib]
    simp only [if_pos ib, cl, hv k (show k < N by omega)]
    have fin : ∀ (τ1 : aSt) (v : Int32), Fr (fun a _ => a = 69) τ τ1 → v = (if vd k = -1000000 then 0 else xH g N R k) → ∃ τ', f_X12_findHolds_2 f (nI k + 1) (sI τ1 81 k v) = some ((), τ') ∧ Fr (fun a _ => a = 69 ∨ a = 81) τ τ' ∧ (∀ n, n < N → gI τ' 81 n = if vd n = -1000000 then 0 else xH g N R n) := by
      intro τ1 v f1 hv1
      have f2 : Fr (fun a _ => a = 69 ∨ a = 81) τ (sI τ1 81 k v) := Fr.sI (f1.mono (fun a k q => Or.inl q)) (Or.inr rfl)
      have hA2 : Ag g (sI τ1 81 k v) := hk.fr2 f2 (fun a k q => by rcases q with q | q <;> rw [q] <;> simp [scr])
      obtain ⟨τ2, b1, b2, b3⟩ := ih (k + 1) (sI τ1 81 k v) hA2 (by omega) (by omega) (fun n hn => by rw [f2.2.1 67 n (by omega)]; exact hv n hn) (fun n hn => by
        by_cases e : n = k
        · rw [e, gI_same, hv1]
        · rw [gI_other (Or.inr e), f1.2.1 81 n (by omega)]
          exact hh n (by omega))
      rw [nI_1]
      exact ⟨τ2, b1, f2.tr b2, b3⟩
    by_cases c : vd k = -1000000
    · rw [if_pos c]
      exact fin τ 0 Fr.rf (by rw [if_pos c])
    · rw [if_neg c, hk.row k (by omega)]
      obtain ⟨τ1, a1, a2, -, a3⟩ := s_setOf hw hk (show k < N by omega) (kn := 0) (by omega) (g 65 k)
      rw [show f_X12_setOf (nI k) 0 (g 65 k) τ = _ from a1, Option.bind_some]
      exact fin τ1 _ a2 (by rw [if_neg c]; rfl)
theorem s_findHolds (hw : gW g N R) {τ : aSt} (h : Ag g τ) (hv : ∀ n, n < N → gI τ 67 n = vd n) : ∃ τ', f_X12_findHolds τ = some ((), τ') ∧ Fr (fun a _ => a = 69 ∨ a = 81) τ τ' ∧ (∀ n, n < N → gI τ' 81 n = if vd n = -1000000 then 0 else xH g N R n) := by
  have hN := hw.hN
  exact s_holdsL hw aN 0 τ h (by omega) (by show N < 0 + 1000000; omega) hv (fun n hn => absurd hn (Nat.not_lt_zero _))
theorem s_costSet (hw : gW g N R) {τ : aSt} (h : Ag g τ) (hv : ∀ n, n < N → gI τ 67 n = vd n) (hh : ∀ n, n < N → gI τ 81 n = if vd n = -1000000 then 0 else xH g N R n) (hc : gI τ 80 0 = c0) (set odd : Int32) : f_X12_costOfSet set odd τ = some (wI (iSum (xPc g N R vd c0 set odd) N), τ) := by
  have hN := hw.hN
  have loop : ∀ (f k : Nat), k ≤ N → N < k + f → f_X12_costOfSet_5 f set odd (wI (iSum (xPc g N R vd c0 set odd) k)) (nI k) τ = some (wI (iSum (xPc g N R vd c0 set odd) N), τ) := by
    intro f
    induction f with
    | zero => intro k h1 h2; omega
    | succ f ih =>
      intro k h1 h2
      show f_X12_costOfSet_5_b (f_X12_costOfSet_5 f) set odd (wI (iSum (xPc g N R vd c0 set odd) k)) (nI k) τ = _
      unfold f_X12_costOfSet_5_b f_X12_costOfSet_56 f_X12_costOfSet_106 f_X12_costOfSet_108
      rw [h.c (by omega), hw.n5]
      by_cases z : k = N
      · subst z
        rw [if_pos (Int32.le_refl _)]
      have ib : inB (nI k) 120 := ix_in (by omega) (by omega)
      have cl : (nI k).toNatClampNeg = k := ix_cl (by omega)
      have ihk := ih (k + 1) (by omega) (by omega)
      rw [iSum_s, ← wI_add] at ihk
      rw [if_neg (fun q => z (by rw [nI_leI (by omega) (by omega)] at q; omega))]
      simp only [if_pos ib, cl, hv k (show k < N by omega), hh k (show k < N by omega), h.row k (show (61 ≤ 61 ∧ 61 ≤ 66) ∨ _ from Or.inl (by omega)), h.row k (show (61 ≤ 65 ∧ 65 ≤ 66) ∨ _ from Or.inl (by omega)), hc, nI_1, wI_32, wI_0]
      generalize wI (iSum (xPc g N R vd c0 set odd) k) = A at *
      have t0 : wI 0 = 0 := rfl
      by_cases c : vd k = -1000000
      · rw [if_pos c]
        have e0 : xPc g N R vd c0 set odd k = 0 := by unfold xPc; rw [if_pos c]
        rw [e0, t0, Int64.add_zero] at ihk
        exact ihk
      rw [if_neg c, if_neg c]
      by_cases d : g 61 k - g 61 k / 2 * 2 = odd
      case neg =>
        rw [if_neg d]
        have e0 : xPc g N R vd c0 set odd k = 0 := by unfold xPc; rw [if_neg c, if_neg d]
        rw [e0, t0, Int64.add_zero] at ihk
        exact ihk
      rw [if_pos d]
      have ex : xPc g N R vd c0 set odd k = (if vd k = 1 then (if xH g N R k &&& set = 0 then (g 65 k).toInt else 0) else (if xH g N R k &&& set = 0 then 0 else c0.toInt)) := by
        unfold xPc
        rw [if_neg c, if_pos d]
      rw [ex] at ihk
      by_cases q : xH g N R k &&& set = 0
      · rw [if_pos q]
        by_cases v1 : vd k = 1
        · rw [if_pos v1, if_pos trivial]
          rw [if_pos v1, if_pos q] at ihk
          exact ihk
        · rw [if_neg v1, if_pos trivial]
          rw [if_neg v1, if_pos q] at ihk
          exact ihk
      · rw [if_neg q]
        by_cases v1 : vd k = 1
        · rw [if_pos v1, if_neg (by decide)]
          rw [if_pos v1, if_neg q] at ihk
          exact ihk
        · rw [if_neg v1, if_neg (by decide)]
          rw [if_neg v1, if_neg q] at ihk
          exact ihk
  exact loop aN 0 (by omega) (by show N < 0 + 1000000; omega)
end PS
theorem nb_all {R : Nat} (hR : R ≤ 12) : ((1 : Int32) <<< (nI R &&& 31)) - 1 = nI (2 ^ R - 1) := by
  rw [nb_bit (by omega), show (1 : Int32) = nI 1 from rfl, pk_sub Nat.one_le_two_pow]
theorem s_allRules {g : Nat → Nat → Int32} {N R b : Nat} (hw : gW g N R) {τ : aSt} (h : cG g N R b τ) : f_X8_allRules b τ = some (nI (2 ^ R - 1), τ) := by
  unfold f_X8_allRules
  rw [if_pos h.okb, h.sz, nb_all hw.hR]
theorem op_costs {σ : aSt} (h : Inv σ) (p1 p2 : Int32) : Op (f_X11_costs p1 p2) (f_X12_costs p1 p2) σ := by
  obtain ⟨N, b, R, hw, hc, hca, hp, -⟩ := h.data
  have hA := Ag.self σ
  have hN := hw.hN
  have s3 : gI σ 26 0 = gI σ 80 0 := h.2.2.2.1.2.2.1
  have hv : ∀ n, n < N → gI σ (84 + n) 7 = gI σ 67 n := fun n hn => (hp.2.2.2.2.2.1 n hn).2.2.2.2.2.2.2
  have hv3 : cVd N (fun n => gI σ 67 n) := fun n hn => (hp.2.2.2.2.1 n hn).2.2.2.2.2.2
  have ec : f_X11_costs p1 p2 σ = (if ¬ (0 ≤ p1 ∧ p1 ≤ nI (2 ^ R - 1)) then some (-1000001, σ) else if ¬ (0 ≤ p2 ∧ p2 ≤ 1) then some (-1000001, σ) else (f_X5_priceOfSet p1 p2 σ).bind (fun q12 => some (q12.1, q12.2))) := by
    unfold f_X11_costs f_X11_costs_27
    rw [hc.r11]
    simp only [oC_some]
    rw [if_pos hc.okb, s_allRules hw hc, Option.bind_some, s_within, Option.bind_some]
    simp only [bI_0, decide_eq_false_iff_not]
    by_cases c : 0 ≤ p1 ∧ p1 ≤ nI (2 ^ R - 1)
    · rw [if_neg (not_not_intro c), if_neg (not_not_intro c), s_within, Option.bind_some]
      simp only [bI_0, decide_eq_false_iff_not]
    · rw [if_pos c, if_pos c]
  have em : ∀ τ, Ag (vw σ) τ → f_X12_costs p1 p2 τ = (if ¬ (0 ≤ p1 ∧ p1 ≤ nI (2 ^ R - 1)) then some (-1000001, sI τ 57 0 0) else if ¬ (0 ≤ p2 ∧ p2 ≤ 1) then some (-1000001, sI τ 57 0 0) else (f_X12_findHolds (sI τ 57 0 0)).bind (fun q7 => (f_X12_costOfSet (p1) (p2) q7.2).bind (fun q9 => some (q9.1, q9.2)))) := by
    intro τ ha
    unfold f_X12_costs f_X12_costs_33
    rw [ha.th.c (by omega), hw.n20, nb_all hw.hR, s_in 0 (nI (2 ^ R - 1)).toInt64 0 (nI (2 ^ R - 1)) rfl rfl, Option.bind_some]
    simp only [bI_0, decide_eq_false_iff_not]
    by_cases c : 0 ≤ p1 ∧ p1 ≤ nI (2 ^ R - 1)
    · rw [if_neg (not_not_intro c), if_neg (not_not_intro c), s_in 0 1 0 1 rfl rfl, Option.bind_some]
      simp only [bI_0, decide_eq_false_iff_not]
    · rw [if_pos c, if_pos c]
  by_cases c : 0 ≤ p1 ∧ p1 ≤ nI (2 ^ R - 1)
  case neg =>
    rw [if_pos c] at ec
    have := em σ hA
    rw [if_pos c] at this
    exact ⟨_, σ, sI σ 57 0 0, ec, this, h.thr 0⟩
  by_cases d : 0 ≤ p2 ∧ p2 ≤ 1
  case neg =>
    rw [if_neg (not_not_intro c), if_pos d] at ec
    have := em σ hA
    rw [if_neg (not_not_intro c), if_pos d] at this
    exact ⟨_, σ, sI σ 57 0 0, ec, this, h.thr 0⟩
  rw [if_neg (not_not_intro c), if_neg (not_not_intro d)] at ec
  obtain ⟨σ1, a1, a2, a3⟩ := s_price (vd := fun n => gI σ 67 n) (c0 := gI σ 80 0) hw hv3 p1 p2 ⟨hc, pCa.of hca⟩ hv s3
  have hA1 : Ag (vw σ) σ1 := hA.fr a2 (fun a k q => cSl_pers q)
  have em1 := em σ1 hA1
  rw [if_neg (not_not_intro c), if_neg (not_not_intro d)] at em1
  obtain ⟨σ2, b1, b2, b3⟩ := s_findHolds (vd := fun n => gI σ 67 n) hw hA1.th (fun n hn => by rw [gI_other (Or.inl (by omega)), a2.2.1 67 n (by unfold cSl; omega)])
  have hA2 : Ag (vw σ) σ2 := hA1.th.fr2 b2 (fun a k q => by rcases q with q | q <;> rw [q] <;> simp [scr])
  have hc2 := s_costSet (vd := fun n => gI σ 67 n) (c0 := gI σ 80 0) hw hA2 (fun n hn => by rw [b2.2.1 67 n (by omega), gI_other (Or.inl (by omega)), a2.2.1 67 n (by unfold cSl; omega)]) b3 (by rw [b2.2.1 80 0 (by omega), gI_other (Or.inl (by omega)), a2.2.1 80 0 (by unfold cSl; omega)]) p1 p2
  rw [a1, Option.bind_some] at ec
  rw [b1, Option.bind_some, hc2, Option.bind_some] at em1
  exact ⟨_, σ1, σ2, ec, em1, ((h.ca hw (frSl a2) a3.2).thr 0).fr (b2.mono (fun a k q => by rcases q with q | q <;> rw [q] <;> simp [scr]))⟩
