/-! ===== bestSetting: what is best, and the class's search ===== -/
section BE
variable (g : Nat → Nat → Int32) (N R : Nat) (vd : Nat → Int32) (c0 c1 : Int32)
def sNo (n : Nat) : Nat := (xS g N R n).toNatClampNeg
def TT (x : Nat) : Prop := x = 0 ∨ ∃ n, n < N ∧ ¬ vd n = -1000000 ∧ x = sNo g N R n + 1
def bp (m : Nat) : Int := xBP g N R vd c0 c1 (nI m)
def PR (l m : Nat) : Int := xLP g N R vd c1 (nI l) + bp g N R vd c0 c1 m
def lx (l m l' m' : Nat) : Prop := PR g N R vd c0 c1 l m < PR g N R vd c0 c1 l' m' ∨ (PR g N R vd c0 c1 l m = PR g N R vd c0 c1 l' m' ∧ (l < l' ∨ (l = l' ∧ m ≤ m')))
def isB (l m : Nat) : Prop := TT g N R vd l ∧ TT g N R vd m ∧ l ≤ m ∧ ∀ l' m', TT g N R vd l' → TT g N R vd m' → l' ≤ m' → lx g N R vd c0 c1 l m l' m'
end BE
section BE2
variable {g : Nat → Nat → Int32} {N R b : Nat} {vd : Nat → Int32} {c0 c1 : Int32}
theorem isB_u {l m l' m' : Nat} (h : isB g N R vd c0 c1 l m) (h' : isB g N R vd c0 c1 l' m') : l = l' ∧ m = m' := by
  have a := h.2.2.2 l' m' h'.1 h'.2.1 h'.2.2.1
  have b := h'.2.2.2 l m h.1 h.2.1 h.2.2.1
  unfold lx at a b
  omega
theorem lx_tr {l m l' m' l2 m2 : Nat} (h1 : lx g N R vd c0 c1 l m l' m') (h2 : lx g N R vd c0 c1 l' m' l2 m2) : lx g N R vd c0 c1 l m l2 m2 := by
  unfold lx at *
  omega
theorem xS_eq (hw : gW g N R) (n : Nat) : xS g N R n = nI (sNo g N R n) ∧ sNo g N R n ≤ 12000 := by
  have hR := hw.hR
  have h12 : 2 ^ R ≤ 2 ^ 12 := Nat.pow_le_pow_right (by omega) hR
  obtain ⟨s, hs, es⟩ := xHold_rng hw (xFeat g N n 0 (g 65 n))
  have es : xSet g N R n 0 (g 65 n) = nI s := es
  have hb := bS_wle (w := gw g) (R := R) (t := s) (fun r hr => (gw_eq hw hr).2.2) R (Nat.le_refl _)
  have e2 : xS g N R n = nI (bS (gw g) s R) := by
    unfold xS
    rw [es, xWt_nI hw (by omega)]
  unfold sNo
  rw [e2, ix_cl (by omega)]
  exact ⟨rfl, by omega⟩
theorem TT_le (hw : gW g N R) {x : Nat} (h : TT g N R vd x) : x ≤ 12001 := by
  rcases h with q | ⟨n, -, -, q⟩
  · omega
  · have := (xS_eq hw n).2
    omega
theorem part_rng (hN : N ≤ 120) (hg : cGood g N c0) (r1 : 0 ≤ c1.toInt ∧ c1.toInt ≤ 100000) (l : Int32) : (-24000000 ≤ xLP g N R vd c1 l ∧ xLP g N R vd c1 l ≤ 24000000) ∧ (-24000000 ≤ xBP g N R vd c0 c1 l ∧ xBP g N R vd c0 c1 l ≤ 24000000) := by
  have z0 : (0 : Int32).toInt = 0 := rfl
  have h1 := iSum_rng (h := xLk g N R vd c1 l) (B := 200000) (n := N) (fun i hi => by
    have h2 := hg.2 i hi
    unfold xLk xLs
    repeat' split
    all_goals omega)
  have h2 := iSum_rng (h := xBk g N R vd c0 c1 l) (B := 200000) (n := N) (fun i hi => by
    have h2 := hg.1
    unfold xBk
    repeat' split
    all_goals omega)
  unfold xLP xBP
  omega
/-- thresholds in the class's cells -/
def tS (T : Nat → Nat) (st : Nat) (τ : aSt) : Prop := gI τ 26 11 = nI st ∧ (∀ i, i < st → gI τ 29 i = nI (T i) ∧ T i ≤ 12001) ∧ ∀ i j, i < j → j < st → T i < T j
def tp (T : Nat → Nat) (x : Nat) : Nat → Nat
  | 0 => 0
  | k + 1 => if T k ≤ x then k + 1 else tp T x k
theorem tp_spec {T : Nat → Nat} {x : Nat} : ∀ k, tp T x k ≤ k ∧ (0 < tp T x k → T (tp T x k - 1) ≤ x) ∧ ∀ i, tp T x k ≤ i → i < k → x < T i
  | 0 => ⟨Nat.le_refl _, fun h => absurd h (Nat.lt_irrefl _), fun i _ h => absurd h (Nat.not_lt_zero _)⟩
  | k + 1 => by
    obtain ⟨a, b, c⟩ := tp_spec (T := T) (x := x) k
    show (if T k ≤ x then k + 1 else tp T x k) ≤ k + 1 ∧ (0 < (if T k ≤ x then k + 1 else tp T x k) → T ((if T k ≤ x then k + 1 else tp T x k) - 1) ≤ x) ∧ ∀ i, (if T k ≤ x then k + 1 else tp T x k) ≤ i → i < k + 1 → x < T i
    by_cases h : T k ≤ x
    · rw [if_pos h]
      exact ⟨Nat.le_refl _, fun _ => by rw [Nat.add_sub_cancel]; exact h, fun i h1 h2 => by omega⟩
    · rw [if_neg h]
      refine ⟨by omega, b, fun i h1 h2 => ?_⟩
      by_cases e : i = k
      · rw [e]; omega
      · exact c i h1 (by omega)
theorem s_tp {T : Nat → Nat} {st x : Nat} (hst : st ≤ 121) (hx : x ≤ 12001) {τ : aSt} (ht : tS T st τ) : ∀ (k f : Nat), k ≤ st → k < f → f_X5_addThreshold_5 f (nI x) (nI k) τ = f_X5_addThreshold_27 (nI x) (nI (tp T x k)) τ := by
  intro k
  induction k with
  | zero =>
    intro f _ hf
    obtain ⟨f, rfl⟩ : ∃ f', f = f' + 1 := ⟨f - 1, by omega⟩
    show f_X5_addThreshold_5_b (f_X5_addThreshold_5 f) (nI x) (nI 0) τ = _
    unfold f_X5_addThreshold_5_b
    rw [if_pos (show nI 0 ≤ 0 from Int32.le_refl _)]
    rfl
  | succ k ih =>
    intro f hk hf
    obtain ⟨f, rfl⟩ : ∃ f', f = f' + 1 := ⟨f - 1, by omega⟩
    show f_X5_addThreshold_5_b (f_X5_addThreshold_5 f) (nI x) (nI (k + 1)) τ = _
    unfold f_X5_addThreshold_5_b
    obtain ⟨t1, t2⟩ := ht.2.1 k (by omega)
    rw [if_neg (nI_nle (by omega) (by omega)), nI_s1, if_pos (ix_in (by omega) (by omega)), ix_cl (by omega), t1, nI_mm]
    show _ = f_X5_addThreshold_27 (nI x) (nI (if T k ≤ x then k + 1 else tp T x k)) τ
    by_cases c : T k ≤ x
    · rw [if_pos ((nI_leI (by omega) (by omega)).mpr c), if_pos c]
    · rw [if_neg (fun q => c ((nI_leI (by omega) (by omega)).mp q)), if_neg c]
      exact ih f (by omega) (by omega)
theorem s_addT {T : Nat → Nat} {st x : Nat} (hst : st ≤ 120) (hx : x ≤ 12001) {τ : aSt} (ht : tS T st τ) : ∃ τ' T' st', f_X5_addThreshold (nI x) τ = some ((), τ') ∧ Fr (fun a k => a = 29 ∨ (a = 26 ∧ k = 11)) τ τ' ∧ gL τ' = gL τ ∧ tS T' st' τ' ∧ st ≤ st' ∧ st' ≤ st + 1 ∧ ∀ y, (∃ i, i < st' ∧ T' i = y) ↔ (y = x ∨ ∃ i, i < st ∧ T i = y) := by
  obtain ⟨p1, p2, p3⟩ := tp_spec (T := T) (x := x) st
  unfold f_X5_addThreshold
  rw [ht.1, s_tp (by omega) hx ht st aN (Nat.le_refl _) (by show st < 1000000; omega)]
  generalize hp : tp T x st = p at *
  unfold f_X5_addThreshold_27 f_X5_addThreshold_47
  by_cases kn : 0 < p ∧ T (p - 1) = x
  · obtain ⟨q, rfl⟩ : ∃ q, p = q + 1 := ⟨p - 1, by omega⟩
    rw [Nat.add_sub_cancel] at kn
    obtain ⟨t1, t2⟩ := ht.2.1 q (by omega)
    rw [if_neg (nI_nle (by omega) (by omega)), nI_s1, if_pos (ix_in (by omega) (by omega)), ix_cl (by omega), t1, if_pos (by rw [kn.2])]
    refine ⟨τ, T, st, ?_, Fr.rf, rfl, ht, by omega, by omega, fun y => ⟨fun h => Or.inr h, fun h => ?_⟩⟩
    · unfold f_X5_addThreshold_48 f_X5_addThreshold_62
      rw [if_neg (by decide)]
    · rcases h with h | h
      · exact ⟨q, by omega, by rw [h]; exact kn.2⟩
      · exact h
  · have e48 : (if nI p ≤ 0 then f_X5_addThreshold_48 (nI x) (nI p) 0 τ else if inB (nI p - 1) 121 then (if gI τ 29 (nI p - 1).toNatClampNeg = nI x then f_X5_addThreshold_48 (nI x) (nI p) 1 τ else f_X5_addThreshold_48 (nI x) (nI p) 0 τ) else none) = f_X5_addThreshold_48 (nI x) (nI p) 0 τ := by
      by_cases p0 : p = 0
      · rw [p0, if_pos (show nI 0 ≤ 0 from Int32.le_refl _)]
      · obtain ⟨q, rfl⟩ : ∃ q, p = q + 1 := ⟨p - 1, by omega⟩
        rw [Nat.add_sub_cancel] at kn
        obtain ⟨t1, t2⟩ := ht.2.1 q (by omega)
        rw [if_neg (nI_nle (by omega) (by omega)), nI_s1, if_pos (ix_in (by omega) (by omega)), ix_cl (by omega), t1, if_neg (fun z => kn ⟨by omega, nI_inj (by omega) (by omega) z⟩)]
    rw [e48]
    have lo : ∀ i, i < p → T i < x := fun i hi => by
      have h1 := p2 (by omega)
      by_cases e : i = p - 1
      · rw [e]
        have : ¬ T (p - 1) = x := fun z => kn ⟨by omega, z⟩
        omega
      · have := ht.2.2 i (p - 1) (by omega) (by omega)
        omega
    unfold f_X5_addThreshold_48
    have cl : ∀ {j : Nat}, j < 1000 → (nI j).toNatClampNeg = j := fun h => ix_cl (by omega)
    rw [if_pos rfl, ht.1, if_pos (show nI st ≤ 120 by rw [show (120 : Int32) = nI 120 from rfl, nI_leI (by omega) (by omega)]; omega), nI_1, pk_sub p1]
    simp only [cl (show p < 1000 by omega), cl (show p + 1 < 1000 by omega), cl (show st - p < 1000 by omega)]
    rw [if_pos ⟨nI_neg (by omega), nI_neg (by omega), nI_neg (by omega), by omega, by omega⟩, if_pos (ix_in (by omega) (by omega))]
    have e11 : gI (sI (sC τ 29 p 29 (p + 1) (st - p)) 29 p (nI x)) 26 11 = nI st := by
      rw [gI_other (Or.inl (by omega)), gI_sC, if_neg (by omega)]
      exact ht.1
    rw [e11, nI_1]
    generalize hτ : sI (sI (sC τ 29 p 29 (p + 1) (st - p)) 29 p (nI x)) 26 11 (nI (st + 1)) = τ1
    have v29 : ∀ i, i < st + 1 → gI τ1 29 i = nI (insO T x p i) := by
      intro i hi
      rw [← hτ, gI_other (Or.inl (by omega))]
      unfold insO
      by_cases e : i = p
      · rw [e, gI_same, if_neg (Nat.lt_irrefl _), if_pos rfl]
      · rw [gI_other (Or.inr e), gI_sC, if_pos rfl]
        unfold va_cpy
        by_cases l : i < p
        · rw [if_neg (show ¬ (p + 1 ≤ i ∧ i < p + 1 + (st - p)) by omega), if_pos l, (ht.2.1 i (by omega)).1]
        · rw [if_pos (show p + 1 ≤ i ∧ i < p + 1 + (st - p) by omega), if_neg l, if_neg e, show p + (i - (p + 1)) = i - 1 by omega, (ht.2.1 (i - 1) (by omega)).1]
    refine ⟨τ1, insO T x p, st + 1, rfl, ?_, by rw [← hτ]; rfl, ⟨by rw [← hτ, gI_same], fun i hi => ⟨v29 i hi, ?_⟩, fun i j hij hj => ?_⟩, by omega, by omega, fun y => ⟨?_, ?_⟩⟩
    · rw [← hτ]
      exact Fr.sI (Fr.sI (Fr.sC Fr.rf (fun k => Or.inl rfl)) (Or.inl rfl)) (Or.inr ⟨rfl, rfl⟩)
    · unfold insO
      by_cases l : i < p
      · rw [if_pos l]; exact (ht.2.1 i (by omega)).2
      · rw [if_neg l]
        by_cases e : i = p
        · rw [if_pos e]; exact hx
        · rw [if_neg e]; exact (ht.2.1 (i - 1) (by omega)).2
    · unfold insO
      by_cases l : i < p
      · rw [if_pos l]
        by_cases l2 : j < p
        · rw [if_pos l2]; exact ht.2.2 i j hij (by omega)
        · rw [if_neg l2]
          by_cases e : j = p
          · rw [if_pos e]; exact lo i l
          · rw [if_neg e]
            have := lo i l
            have := p3 (j - 1) (by omega) (by omega)
            omega
      · rw [if_neg l, if_neg (show ¬ j < p by omega)]
        by_cases e : i = p
        · rw [if_pos e, if_neg (show ¬ j = p by omega)]
          exact p3 (j - 1) (by omega) (by omega)
        · rw [if_neg e, if_neg (show ¬ j = p by omega)]
          exact ht.2.2 (i - 1) (j - 1) (by omega) (by omega)
    · rintro ⟨i, hi, rfl⟩
      unfold insO
      by_cases l : i < p
      · rw [if_pos l]; exact Or.inr ⟨i, by omega, rfl⟩
      · rw [if_neg l]
        by_cases e : i = p
        · rw [if_pos e]; exact Or.inl rfl
        · rw [if_neg e]; exact Or.inr ⟨i - 1, by omega, rfl⟩
    · rintro (rfl | ⟨i, hi, rfl⟩)
      · exact ⟨p, by omega, by unfold insO; rw [if_neg (Nat.lt_irrefl _), if_pos rfl]⟩
      · by_cases l : i < p
        · exact ⟨i, by omega, by unfold insO; rw [if_pos l]⟩
        · exact ⟨i + 1, by omega, by unfold insO; rw [if_neg (by omega), if_neg (by omega), Nat.add_sub_cancel]⟩
theorem s_thrL (hw : gW g N R) {e : Nat → Nat} {r : Nat} (hr : r ≤ 120) : ∀ (f k : Nat) (τ : aSt) (T : Nat → Nat) (st : Nat), k ≤ r → r < k + f → rtd g N R vd e r τ → tS T st τ → 1 ≤ st → st ≤ k + 1 → (∀ y, (∃ i, i < st ∧ T i = y) ↔ (y = 0 ∨ ∃ i, i < k ∧ y = sNo g N R (e i) + 1)) → ∃ τ' T' st', f_X5_findThresholds_14 f (nI k) τ = some ((), τ') ∧ Fr (fun a k => a = 29 ∨ (a = 26 ∧ k = 11)) τ τ' ∧ gL τ' = gL τ ∧ tS T' st' τ' ∧ 1 ≤ st' ∧ st' ≤ 121 ∧ (∀ y, (∃ i, i < st' ∧ T' i = y) ↔ (y = 0 ∨ ∃ i, i < r ∧ y = sNo g N R (e i) + 1)) := by
  intro f
  induction f with
  | zero => intro k τ T st h1 h2; omega
  | succ f ih =>
    intro k τ T st h1 h2 ht hs hst1 hst hy
    show ∃ τ' T' st', f_X5_findThresholds_14_b (f_X5_findThresholds_14 f) (nI k) τ = _ ∧ _
    unfold f_X5_findThresholds_14_b
    rw [ht.1]
    by_cases z : k = r
    · subst z
      rw [if_pos (Int32.le_refl _)]
      exact ⟨τ, T, st, rfl, Fr.rf, rfl, hs, hst1, by omega, hy⟩
    obtain ⟨-, -, t3, -⟩ := ht.2 k (by omega)
    obtain ⟨s1, s2⟩ := xS_eq hw (e k)
    rw [if_neg (fun q => z (by rw [nI_leI (by omega) (by omega)] at q; omega)), if_pos (ix_in (by omega) (by omega)), ix_cl (by omega), t3, s1, nI_1, nI_1]
    obtain ⟨τ1, T1, st1, a1, a2, aL, a3, a4, a5, a6⟩ := s_addT (T := T) (st := st) (x := sNo g N R (e k) + 1) (by omega) (by omega) hs
    rw [a1, Option.bind_some]
    have ht1 : rtd g N R vd e r τ1 := ⟨by rw [a2.2.1 26 9 (by omega)]; exact ht.1, fun i hi => by rw [a2.2.1 27 i (by omega), a2.2.1 28 i (by omega)]; exact ht.2 i hi⟩
    obtain ⟨τ2, T2, st2, b1, b2, bL, b3, b4⟩ := ih (k + 1) τ1 T1 st1 (by omega) (by omega) ht1 a3 (by omega) (by omega) (fun y => by
      rw [a6 y, hy y]
      constructor
      · rintro (q | q | ⟨i, hi, q⟩)
        · exact Or.inr ⟨k, by omega, q⟩
        · exact Or.inl q
        · exact Or.inr ⟨i, by omega, q⟩
      · rintro (q | ⟨i, hi, q⟩)
        · exact Or.inr (Or.inl q)
        · by_cases ei : i = k
          · rw [ei] at q; exact Or.inl q
          · exact Or.inr (Or.inr ⟨i, by omega, q⟩))
    exact ⟨τ2, T2, st2, b1, a2.tr b2, bL.trans aL, b3, b4⟩
end BE2
