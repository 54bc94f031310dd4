/-! ===== setting ===== -/
section ST
variable (g : Nat → Nat → Int32) (N R : Nat) (vd : Nat → Int32) (c0 c1 : Int32)
/-- what is lost if one passes -/
def xLs (n : Nat) : Int32 := if vd n = 1 then g 65 n else 0
def xLk (l : Int32) (n : Nat) : Int := if vd n = -1000000 then 0 else if xS g N R n < l then (xLs g vd n).toInt else c1.toInt
def xBk (l : Int32) (n : Nat) : Int := if vd n = -1000000 then 0 else if xS g N R n < l then 0 else if xLs g vd n = 0 then c0.toInt - c1.toInt else -c1.toInt
def xCo (l m : Int32) (n : Nat) : Int := if vd n = -1000000 then 0 else if xS g N R n < m then (if xS g N R n < l then (if vd n = 1 then (g 65 n).toInt else 0) else c1.toInt) else (if vd n = 0 then c0.toInt else 0)
end ST
/-- the rated ones -/
def cRt (a k : Nat) : Prop := cSl a k ∨ a = 27 ∨ a = 28 ∨ (a = 26 ∧ k = 9)
/-- who stands where among the rated -/
def rtd (g : Nat → Nat → Int32) (N R : Nat) (vd : Nat → Int32) (e : Nat → Nat) (r : Nat) (τ : aSt) : Prop := gI τ 26 9 = nI r ∧ ∀ k, k < r → e k < N ∧ ¬ vd (e k) = -1000000 ∧ gI τ 27 k = xS g N R (e k) ∧ gI τ 28 k = xLs g vd (e k)
section RT
variable {g : Nat → Nat → Int32} {N R b : Nat} {vd : Nat → Int32} {c0 c1 : Int32}
theorem s_rateL (hw : gW g N R) : ∀ (f k : Nat) (τ : aSt) (e : Nat → Nat) (r : Nat), cK g N R b τ → k ≤ N → N < k + f → (∀ n, n < N → gI τ (84 + n) 7 = vd n) → r ≤ k → rtd g N R vd e r τ → (∀ F : Nat → Int, iSum (fun i => F (e i)) r = iSum (fun j => if vd (xOrd g j) = -1000000 then 0 else F (xOrd g j)) k) → (∀ j, j < k → ¬ vd (xOrd g j) = -1000000 → ∃ i, i < r ∧ e i = xOrd g j) → ∃ τ' e' r', f_X5_rate_7 f (nI k) τ = some ((), τ') ∧ Fr cRt τ τ' ∧ cK g N R b τ' ∧ r' ≤ N ∧ rtd g N R vd e' r' τ' ∧ (∀ F : Nat → Int, iSum (fun i => F (e' i)) r' = iSum (fun j => if vd (xOrd g j) = -1000000 then 0 else F (xOrd g j)) N) ∧ (∀ j, j < N → ¬ vd (xOrd g j) = -1000000 → ∃ i, i < r' ∧ e' i = xOrd g j) := by
  have hN := hw.hN
  intro f
  induction f with
  | zero => intro k τ e r _ h1 h2; omega
  | succ f ih =>
    intro k τ e r hk h1 h2 hv hr ht hF hS
    show ∃ τ' e' r', f_X5_rate_7_b (f_X5_rate_7 f) (nI k) τ = _ ∧ _
    unfold f_X5_rate_7_b f_X5_rate_108
    rw [hk.1.n2]
    by_cases z : k = N
    · subst z
      rw [if_pos (Int32.le_refl _)]
      exact ⟨τ, e, r, rfl, Fr.rf, hk, hr, ht, hF, hS⟩
    rw [if_neg (fun q => z (by rw [nI_leI (by omega) (by omega)] at q; omega)), ht.1, if_neg (show ¬ (120 : Int32) ≤ nI r by rw [show (120 : Int32) = nI 120 from rfl, nI_leI (by omega) (by omega)]; omega), s_inOrd hw hk.1 (show k < N by omega)]
    simp only [Option.bind_some, oC_some]
    have hp : xOrd g k < N := hw.olt k (by omega)
    rw [if_pos (hk.1.ok hp), hv _ hp]
    unfold f_X5_rate_102
    rw [nI_1]
    by_cases c : vd (xOrd g k) = -1000000
    · rw [if_pos c]
      refine ih (k + 1) τ e r hk (by omega) (by omega) hv (by omega) ht (fun F => ?_) (fun j hj hn => ?_)
      · rw [iSum_s, hF F, if_pos c, Int.add_zero]
      · by_cases ej : j = k
        · rw [ej] at hn; exact absurd c hn
        · exact hS j (by omega) hn
    rw [if_neg c]
    obtain ⟨τ1, a1, a2, -, a3⟩ := s_scoreOf hw hk hp (kn := 0) (by omega)
    rw [show f_X2_scoreOf (84 + xOrd g k) 0 τ = _ from a1, Option.bind_some]
    have ib : inB (nI r) 120 := ix_in (by omega) (by omega)
    have cl : (nI r).toNatClampNeg = r := ix_cl (by omega)
    have es : xWt g R (xSet g N R (xOrd g k) 0 (g 65 (xOrd g k))) = xS g N R (xOrd g k) := rfl
    have hc2 : cG g N R b (sI τ1 27 r (xS g N R (xOrd g k))) := a3.1.s2 (by omega)
    simp only [ht.1, if_pos ib, cl, es]
    rw [if_pos (hc2.ok hp)]
    have g269 : gI (sI τ1 27 r (xS g N R (xOrd g k))) 26 9 = nI r := by rw [gI_other (Or.inl (by omega)), a2.2.1 26 9 (by unfold cSl; omega)]; exact ht.1
    have g7 : gI (sI τ1 27 r (xS g N R (xOrd g k))) (84 + xOrd g k) 7 = vd (xOrd g k) := by rw [gI_other (Or.inl (by omega)), a2.2.1 _ _ (by unfold cSl; omega)]; exact hv _ hp
    have g4 := (hc2.pay hp).2.2.2.2.1
    have e91 : (if gI (sI τ1 27 r (xS g N R (xOrd g k))) (84 + xOrd g k) 7 = 1 then f_X5_rate_91 (f_X5_rate_7 f) (nI k) (gI (sI τ1 27 r (xS g N R (xOrd g k))) 26 9) (gI (sI τ1 27 r (xS g N R (xOrd g k))) (84 + xOrd g k) 4) (sI τ1 27 r (xS g N R (xOrd g k))) else f_X5_rate_91 (f_X5_rate_7 f) (nI k) (gI (sI τ1 27 r (xS g N R (xOrd g k))) 26 9) 0 (sI τ1 27 r (xS g N R (xOrd g k)))) = f_X5_rate_7 f (nI (k + 1)) (sI (sI (sI τ1 27 r (xS g N R (xOrd g k))) 28 r (xLs g vd (xOrd g k))) 26 9 (nI (r + 1))) := by
      unfold f_X5_rate_91 f_X5_rate_102 xLs
      rw [g7, g4, g269, if_pos ib, if_pos ib]
      simp only [cl, nI_1]
      have g9 : ∀ v, gI (sI (sI τ1 27 r (xS g N R (xOrd g k))) 28 r v) 26 9 = nI r := fun v => by rw [gI_other (Or.inl (by omega))]; exact g269
      rw [g9, g9, nI_1]
      by_cases v1 : vd (xOrd g k) = 1
      · rw [if_pos v1, if_pos v1]
      · rw [if_neg v1, if_neg v1]
    rw [e91]
    generalize hτ2 : sI (sI (sI τ1 27 r (xS g N R (xOrd g k))) 28 r (xLs g vd (xOrd g k))) 26 9 (nI (r + 1)) = τ2
    have f2 : Fr cRt τ τ2 := by
      rw [← hτ2]
      refine Fr.sI (Fr.sI (Fr.sI (a2.mono (fun a k q => Or.inl q)) ?_) ?_) ?_ <;> simp
    have f12 : Fr (fun a _ => a = 27 ∨ a = 28 ∨ a = 26) τ1 τ2 := by
      rw [← hτ2]
      refine Fr.sI (Fr.sI (Fr.sI Fr.rf ?_) ?_) ?_ <;> simp
    have hk2 : cK g N R b τ2 := ⟨a3.1.fr f12 (fun a k q => cC_row a3.1.hb (by omega)), a3.2.fr f12 (fun a k q => by omega)⟩
    generalize hp0 : xOrd g k = p at *
    obtain ⟨τ3, e3, r3, b1, b2, b3, b4⟩ := ih (k + 1) τ2 (fun i => if i = r then p else e i) (r + 1) hk2 (by omega) (by omega) (fun n hn => by rw [f2.2.1 _ _ (by unfold cRt cSl; omega)]; exact hv n hn) (by omega) (by
      refine ⟨by rw [← hτ2, gI_same], fun i hi => ?_⟩
      show (if i = r then p else e i) < N ∧ ¬ vd (if i = r then p else e i) = -1000000 ∧ _ = xS g N R (if i = r then p else e i) ∧ _ = xLs g vd (if i = r then p else e i)
      by_cases ei : i = r
      · rw [if_pos ei, ei, ← hτ2]
        refine ⟨hp, c, ?_, ?_⟩
        · rw [gI_other (Or.inl (by omega)), gI_other (Or.inl (by omega)), gI_same]
        · rw [gI_other (Or.inl (by omega)), gI_same]
      · rw [if_neg ei]
        obtain ⟨t1, t2, t3, t4⟩ := ht.2 i (by omega)
        refine ⟨t1, t2, ?_, ?_⟩
        · rw [← hτ2, gI_other (Or.inl (by omega)), gI_other (Or.inl (by omega)), gI_other (Or.inr ei), a2.2.1 27 i (by unfold cSl; omega)]
          exact t3
        · rw [← hτ2, gI_other (Or.inl (by omega)), gI_other (Or.inr ei), gI_other (Or.inl (by omega)), a2.2.1 28 i (by unfold cSl; omega)]
          exact t4) (fun F => by
      rw [iSum_s, iSum_s, hp0, if_neg c, ← hF F]
      congr 1
      · refine iSum_congr (fun i hi => ?_)
        rw [if_neg (by omega)]
      · rw [if_pos rfl]) (fun j hj hn => by
      by_cases ej : j = k
      · exact ⟨r, by omega, by rw [ej, hp0, if_pos rfl]⟩
      · obtain ⟨i, hi, ei⟩ := hS j (by omega) hn
        exact ⟨i, by omega, by rw [if_neg (by omega)]; exact ei⟩)
    exact ⟨τ3, e3, r3, b1, f2.tr b2, b3, b4⟩
theorem s_rate (hw : gW g N R) {τ : aSt} (h : cK g N R b τ) (hv : ∀ n, n < N → gI τ (84 + n) 7 = vd n) : ∃ τ' e r, f_X5_rate τ = some ((), τ') ∧ Fr cRt τ τ' ∧ cK g N R b τ' ∧ r ≤ N ∧ rtd g N R vd e r τ' ∧ (∀ F : Nat → Int, iSum (fun i => F (e i)) r = iSum (fun n => if vd n = -1000000 then 0 else F n) N) ∧ (∀ n, n < N → ¬ vd n = -1000000 → ∃ i, i < r ∧ e i = n) := by
  have hN := hw.hN
  have f0 : Fr (fun a k => a = 26 ∧ k = 9) τ (sI τ 26 9 0) := Fr.sI Fr.rf ⟨rfl, rfl⟩
  obtain ⟨τ', e, r, a1, a2, a3, a4, a5, a6, a7⟩ := s_rateL (vd := vd) hw aN 0 (sI τ 26 9 0) (fun _ => 0) 0 ⟨h.1.s2 (by omega), h.2.fr f0 (fun a k q => by omega)⟩ (by omega) (by show N < 0 + 1000000; omega) (fun n hn => by rw [gI_other (Or.inl (by omega))]; exact hv n hn) (by omega) ⟨gI_same _ _ _ _, fun k hk => absurd hk (Nat.not_lt_zero _)⟩ (fun F => rfl) (fun j hj => absurd hj (Nat.not_lt_zero _))
  refine ⟨τ', e, r, a1, (f0.mono (fun a k q => ?_)).tr a2, a3, a4, a5, fun F => ?_, fun n hn hv => ?_⟩
  · unfold cRt
    exact Or.inr (Or.inr (Or.inr q))
  · rw [a6 F]
    exact iSum_perm hw.olt hw.oinj (fun n => if vd n = -1000000 then 0 else F n)
  · obtain ⟨j, hj, ej⟩ := hw.onto hn
    rw [← ej] at hv ⊢
    exact a7 j hj hv
theorem s_look' {τ : aSt} {e : Nat → Nat} {r : Nat} (hr : r ≤ 120) (ht : rtd g N R vd e r τ) (hc1 : gI τ 26 1 = c1) (l : Int32) : f_X5_lookPart l τ = some (wI (iSum (fun i => (if xS g N R (e i) < l then (xLs g vd (e i)).toInt else c1.toInt)) r), τ) := by
  have loop : ∀ (f k : Nat), k ≤ r → r < k + f → f_X5_lookPart_5 f l (wI (iSum (fun i => (if xS g N R (e i) < l then (xLs g vd (e i)).toInt else c1.toInt)) k)) (nI k) τ = some (wI (iSum (fun i => (if xS g N R (e i) < l then (xLs g vd (e i)).toInt else c1.toInt)) r), τ) := by
    intro f
    induction f with
    | zero => intro k h1 h2; omega
    | succ f ih =>
      intro k h1 h2
      show f_X5_lookPart_5_b (f_X5_lookPart_5 f) l (wI (iSum (fun i => (if xS g N R (e i) < l then (xLs g vd (e i)).toInt else c1.toInt)) k)) (nI k) τ = _
      unfold f_X5_lookPart_5_b f_X5_lookPart_42
      rw [ht.1]
      by_cases z : k = r
      · subst z
        rw [if_pos (Int32.le_refl _)]
      have ib : inB (nI k) 120 := ix_in (by omega) (by omega)
      obtain ⟨-, -, t3, t4⟩ := ht.2 k (by omega)
      have ihk := ih (k + 1) (by omega) (by omega)
      rw [iSum_s, ← wI_add] at ihk
      rw [if_neg (fun q => z (by rw [nI_leI (by omega) (by omega)] at q; omega)), if_pos ib, if_pos ib, ix_cl (by omega), t3, t4, hc1, nI_1, wI_32, wI_32]
      by_cases c : xS g N R (e k) < l
      · rw [if_pos c]
        rw [if_pos c] at ihk
        exact ihk
      · rw [if_neg c]
        rw [if_neg c] at ihk
        exact ihk
  exact loop aN 0 (by omega) (by show r < 0 + 1000000; omega)
theorem s_block' {τ : aSt} {e : Nat → Nat} {r : Nat} (hr : r ≤ 120) (ht : rtd g N R vd e r τ) (hc0 : gI τ 26 0 = c0) (hc1 : gI τ 26 1 = c1) (r0 : 0 ≤ c0.toInt ∧ c0.toInt ≤ 100000) (r1 : 0 ≤ c1.toInt ∧ c1.toInt ≤ 100000) (l : Int32) : f_X5_blockPart l τ = some (wI (iSum (fun i => (if xS g N R (e i) < l then 0 else if xLs g vd (e i) = 0 then c0.toInt - c1.toInt else -c1.toInt)) r), τ) := by
  have loop : ∀ (f k : Nat), k ≤ r → r < k + f → f_X5_blockPart_5 f l (wI (iSum (fun i => (if xS g N R (e i) < l then 0 else if xLs g vd (e i) = 0 then c0.toInt - c1.toInt else -c1.toInt)) k)) (nI k) τ = some (wI (iSum (fun i => (if xS g N R (e i) < l then 0 else if xLs g vd (e i) = 0 then c0.toInt - c1.toInt else -c1.toInt)) r), τ) := by
    intro f
    induction f with
    | zero => intro k h1 h2; omega
    | succ f ih =>
      intro k h1 h2
      show f_X5_blockPart_5_b (f_X5_blockPart_5 f) l (wI (iSum (fun i => (if xS g N R (e i) < l then 0 else if xLs g vd (e i) = 0 then c0.toInt - c1.toInt else -c1.toInt)) k)) (nI k) τ = _
      unfold f_X5_blockPart_5_b f_X5_blockPart_44 f_X5_blockPart_52
      rw [ht.1]
      by_cases z : k = r
      · subst z
        rw [if_pos (Int32.le_refl _)]
      have ib : inB (nI k) 120 := ix_in (by omega) (by omega)
      obtain ⟨-, -, t3, t4⟩ := ht.2 k (by omega)
      have ihk := ih (k + 1) (by omega) (by omega)
      rw [iSum_s, ← wI_add] at ihk
      have s1 : (c0 - c1).toInt = c0.toInt - c1.toInt := pi_sub (by omega) (by omega)
      have s2 : (0 - c1).toInt = -c1.toInt := by
        rw [pi_sub (by rw [show (0 : Int32).toInt = 0 from rfl]; omega) (by rw [show (0 : Int32).toInt = 0 from rfl]; omega), show (0 : Int32).toInt = 0 from rfl]
        omega
      rw [if_neg (fun q => z (by rw [nI_leI (by omega) (by omega)] at q; omega)), if_pos ib, if_pos ib, ix_cl (by omega), t3, t4, hc0, hc1, nI_1, wI_32, wI_32, s1, s2]
      by_cases c : xS g N R (e k) < l
      · rw [if_pos c]
        rw [if_pos c, wI_add, Int.add_zero] at ihk
        exact ihk
      · rw [if_neg c]
        rw [if_neg c] at ihk
        by_cases d : xLs g vd (e k) = 0
        · rw [if_pos d]
          rw [if_pos d] at ihk
          exact ihk
        · rw [if_neg d]
          rw [if_neg d] at ihk
          exact ihk
  exact loop aN 0 (by omega) (by show r < 0 + 1000000; omega)
/-- the price's parts -/
def xLP (g : Nat → Nat → Int32) (N R : Nat) (vd : Nat → Int32) (c1 l : Int32) : Int := iSum (xLk g N R vd c1 l) N
def xBP (g : Nat → Nat → Int32) (N R : Nat) (vd : Nat → Int32) (c0 c1 l : Int32) : Int := iSum (xBk g N R vd c0 c1 l) N
theorem xCo_eq (hg : cGood g N c0) (hv3 : cVd N vd) {l m : Int32} (hlm : l ≤ m) : iSum (xCo g N R vd c0 c1 l m) N = xLP g N R vd c1 l + xBP g N R vd c0 c1 m := by
  unfold xLP xBP
  rw [← iSum_add]
  refine iSum_congr (fun n hn => ?_)
  unfold xCo xLk xBk xLs
  have ha := hg.2 n hn
  by_cases c : vd n = -1000000
  · rw [if_pos c, if_pos c, if_pos c]
    rfl
  rw [if_neg c, if_neg c, if_neg c]
  have z0 : (0 : Int32).toInt = 0 := rfl
  have hne : ¬ g 65 n = 0 := fun z => by rw [z, z0] at ha; omega
  by_cases s1 : xS g N R n < m
  · rw [if_pos s1, if_pos s1]
    by_cases s2 : xS g N R n < l
    · rw [if_pos s2, if_pos s2]
      by_cases v1 : vd n = 1
      · rw [if_pos v1, if_pos v1, Int.add_zero]
      · rw [if_neg v1, if_neg v1, z0]
        rfl
    · rw [if_neg s2, if_neg s2, Int.add_zero]
  · have s2 : ¬ xS g N R n < l := fun q => s1 (by rw [pi_lt] at q ⊢; rw [pi_le] at hlm; omega)
    rw [if_neg s1, if_neg s1, if_neg s2]
    by_cases v1 : vd n = 1
    · rw [if_pos v1, if_neg hne, if_neg (by rw [v1]; decide)]
      omega
    · have v0 : vd n = 0 := by
        rcases hv3 n hn with w | w | w
        · exact absurd w c
        · exact w
        · exact absurd w v1
      rw [if_neg v1, if_pos rfl, if_pos v0]
      omega
theorem s_scoresL (hw : gW g N R) : ∀ (f k : Nat) (τ : aSt), Ag g τ → k ≤ N → N < k + f → (∀ n, n < N → gI τ 67 n = vd n) → (∀ n, n < k → ¬ vd n = -1000000 → gI τ 78 n = xS g N R n) → ∃ τ', f_X12_findScores_2 f (nI k) τ = some ((), τ') ∧ Fr (fun a _ => a = 69 ∨ a = 78) τ τ' ∧ (∀ n, n < N → ¬ vd n = -1000000 → gI τ' 78 n = xS g N R n) := by
  have hN := hw.hN
  intro f
  induction f with
  | zero => intro k τ _ h1 h2; omega
  | succ f ih =>
    intro k τ hk h1 h2 hv hh
    show ∃ τ', f_X12_findScores_2_b (f_X12_findScores_2 f) (nI k) τ = _ ∧ _
    unfold f_X12_findScores_2_b f_X12_findScores_36
    rw [hk.c (by omega), hw.n5]
    by_cases z : k = N
    · subst z
      rw [if_pos (Int32.le_refl _)]
      exact ⟨τ, rfl, Fr.rf, hh⟩
    have ib : inB (nI k) 120 := ix_in (by omega) (by omega)
    have cl : (nI k).toNatClampNeg = k := ix_cl (by omega)
    rw [if_neg (fun q => z (by rw [nI_leI (by omega) (by omega)] at q; omega)), if_pos ib]
    simp only [if_pos ib, cl, hv k (show k < N by omega)]
    have fin : ∀ (τ1 : aSt) (v : Int32), Fr (fun a _ => a = 69) τ τ1 → (¬ vd k = -1000000 → v = xS g N R k) → ∃ τ', f_X12_findScores_2 f (nI k + 1) (sI τ1 78 k v) = some ((), τ') ∧ Fr (fun a _ => a = 69 ∨ a = 78) τ τ' ∧ (∀ n, n < N → ¬ vd n = -1000000 → gI τ' 78 n = xS g N R n) := by
      intro τ1 v f1 hv1
      have f2 : Fr (fun a _ => a = 69 ∨ a = 78) τ (sI τ1 78 k v) := Fr.sI (f1.mono (fun a k q => Or.inl q)) (Or.inr rfl)
      have hA2 : Ag g (sI τ1 78 k v) := hk.fr2 f2 (fun a k q => by rcases q with q | q <;> rw [q] <;> simp [scr])
      obtain ⟨τ2, b1, b2, b3⟩ := ih (k + 1) (sI τ1 78 k v) hA2 (by omega) (by omega) (fun n hn => by rw [f2.2.1 67 n (by omega)]; exact hv n hn) (fun n hn hq => by
        by_cases e : n = k
        · rw [e] at hq ⊢
          rw [gI_same, hv1 hq]
        · rw [gI_other (Or.inr e), f1.2.1 78 n (by omega)]
          exact hh n (by omega) hq)
      rw [nI_1]
      exact ⟨τ2, b1, f2.tr b2, b3⟩
    by_cases c : vd k = -1000000
    · rw [if_pos c]
      exact fin τ 0 Fr.rf (fun q => absurd c q)
    · rw [if_neg c]
      obtain ⟨τ1, a1, a2, -, a3⟩ := s_scoreM hw hk (show k < N by omega) (kn := 0) (by omega)
      rw [show f_X12_scoreOf (nI k) 0 τ = _ from a1, Option.bind_some]
      exact fin τ1 _ a2 (fun _ => rfl)
theorem s_findSc (hw : gW g N R) {τ : aSt} (h : Ag g τ) (hv : ∀ n, n < N → gI τ 67 n = vd n) : ∃ τ', f_X12_findScores τ = some ((), τ') ∧ Fr (fun a _ => a = 69 ∨ a = 78) τ τ' ∧ (∀ n, n < N → ¬ vd n = -1000000 → gI τ' 78 n = xS g N R n) := by
  have hN := hw.hN
  exact s_scoresL hw aN 0 τ h (by omega) (by show N < 0 + 1000000; omega) hv (fun n hn => absurd hn (Nat.not_lt_zero _))
theorem s_costOf (hw : gW g N R) {τ : aSt} (h : Ag g τ) (hv : ∀ n, n < N → gI τ 67 n = vd n) (hh : ∀ n, n < N → ¬ vd n = -1000000 → gI τ 78 n = xS g N R n) (hc0 : gI τ 80 0 = c0) (hc1 : gI τ 80 1 = c1) (l m : Int32) : f_X12_costOf l m τ = some (wI (iSum (xCo g N R vd c0 c1 l m) N), τ) := by
  have hN := hw.hN
  have loop : ∀ (f k : Nat), k ≤ N → N < k + f → f_X12_costOf_5 f l m (wI (iSum (xCo g N R vd c0 c1 l m) k)) (nI k) τ = some (wI (iSum (xCo g N R vd c0 c1 l m) N), τ) := by
    intro f
    induction f with
    | zero => intro k h1 h2; omega
    | succ f ih =>
      intro k h1 h2
      show f_X12_costOf_5_b (f_X12_costOf_5 f) l m (wI (iSum (xCo g N R vd c0 c1 l m) k)) (nI k) τ = _
      unfold f_X12_costOf_5_b f_X12_costOf_59 f_X12_costOf_112 f_X12_costOf_114
      rw [h.c (by omega), hw.n5]
      by_cases z : k = N
      · subst z
        rw [if_pos (Int32.le_refl _)]
      have ib : inB (nI k) 120 := ix_in (by omega) (by omega)
      have cl : (nI k).toNatClampNeg = k := ix_cl (by omega)
      have ihk := ih (k + 1) (by omega) (by omega)
      rw [iSum_s, ← wI_add] at ihk
      rw [if_neg (fun q => z (by rw [nI_leI (by omega) (by omega)] at q; omega))]
      simp only [if_pos ib, cl, hv k (show k < N by omega), h.row k (show (61 ≤ 65 ∧ 65 ≤ 66) ∨ _ from Or.inl (by omega)), hc0, hc1, nI_1, wI_32, wI_0]
      generalize wI (iSum (xCo g N R vd c0 c1 l m) k) = A at *
      have t0 : wI 0 = 0 := rfl
      unfold xCo at ihk
      by_cases c : vd k = -1000000
      · rw [if_pos c]
        rw [if_pos c, t0, Int64.add_zero] at ihk
        exact ihk
      rw [if_neg c]
      rw [if_neg c] at ihk
      rw [hh k (show k < N by omega) c]
      by_cases s1 : xS g N R k < m
      · rw [if_pos s1]
        rw [if_pos s1] at ihk
        by_cases s2 : xS g N R k < l
        · rw [if_pos s2]
          rw [if_pos s2] at ihk
          by_cases v1 : vd k = 1
          · rw [if_pos v1]
            rw [if_pos v1] at ihk
            exact ihk
          · rw [if_neg v1]
            rw [if_neg v1] at ihk
            exact ihk
        · rw [if_neg s2]
          rw [if_neg s2] at ihk
          exact ihk
      · rw [if_neg s1]
        rw [if_neg s1] at ihk
        by_cases v0 : vd k = 0
        · rw [if_pos v0]
          rw [if_pos v0] at ihk
          exact ihk
        · rw [if_neg v0]
          rw [if_neg v0] at ihk
          exact ihk
  exact loop aN 0 (by omega) (by show N < 0 + 1000000; omega)
end RT
theorem cRt_pers {a k : Nat} (h : cRt a k) : pers a k = false := by
  rcases h with q | q | q | q
  · exact cSl_pers q
  · rw [q]; simp [pers]
  · rw [q]; simp [pers]
  · rw [q.1]; simp [pers]
theorem cRt_ask {a k : Nat} (h : cRt a k) : cAsk a k := by
  rcases h with q | q | q | q
  · exact cSl_ask q
  · rw [q]; simp [cAsk, scr]
  · rw [q]; simp [cAsk, scr]
  · rw [q.1, q.2]; simp [cAsk, scr]
theorem op_setting {σ : aSt} (h : Inv σ) (p1 p2 : Int32) : Op (f_X11_setting p1 p2) (f_X12_setting p1 p2) σ := by
  obtain ⟨N, b, R, hw, hc, hca, hp, -⟩ := h.data
  have hA := Ag.self σ
  have hN := hw.hN
  have ec : f_X11_setting p1 p2 σ = (if ¬ (0 ≤ p1 ∧ p1 ≤ 20000) then some (-1000001, σ) else if ¬ (p1 ≤ p2 ∧ p2 ≤ 20000) then some (-1000001, σ) else (f_X5_priceOf p1 p2 σ).bind (fun q7 => some (q7.1, q7.2))) := by
    unfold f_X11_setting f_X11_setting_22
    rw [s_within, Option.bind_some]
    simp only [bI_0, decide_eq_false_iff_not]
    by_cases c : 0 ≤ p1 ∧ p1 ≤ 20000
    · rw [if_neg (not_not_intro c), if_neg (not_not_intro c), s_within, Option.bind_some]
      simp only [bI_0, decide_eq_false_iff_not]
    · rw [if_pos c, if_pos c]
  have em : ∀ τ, f_X12_setting p1 p2 τ = (if ¬ (0 ≤ p1 ∧ p1 ≤ 20000) then some (-1000001, sI τ 57 0 0) else if ¬ (p1 ≤ p2 ∧ p2 ≤ 20000) then some (-1000001, sI τ 57 0 0) else (f_X12_findScores (sI τ 57 0 0)).bind (fun q7 => (f_X12_costOf (p1) (p2) q7.2).bind (fun q9 => some (q9.1, q9.2)))) := by
    intro τ
    unfold f_X12_setting f_X12_setting_30
    rw [s_in 0 20000 0 20000 rfl rfl, Option.bind_some]
    simp only [bI_0, decide_eq_false_iff_not]
    by_cases c : 0 ≤ p1 ∧ p1 ≤ 20000
    · rw [if_neg (not_not_intro c), if_neg (not_not_intro c), s_in p1.toInt64 20000 p1 20000 rfl rfl, Option.bind_some]
      simp only [bI_0, decide_eq_false_iff_not]
    · rw [if_pos c, if_pos c]
  by_cases c : 0 ≤ p1 ∧ p1 ≤ 20000
  case neg =>
    rw [if_pos c] at ec
    have := em σ
    rw [if_pos c] at this
    exact ⟨_, σ, sI σ 57 0 0, ec, this, h.thr 0⟩
  by_cases d : p1 ≤ p2 ∧ p2 ≤ 20000
  case neg =>
    rw [if_neg (not_not_intro c), if_pos d] at ec
    have := em σ
    rw [if_neg (not_not_intro c), if_pos d] at this
    exact ⟨_, σ, sI σ 57 0 0, ec, this, h.thr 0⟩
  rw [if_neg (not_not_intro c), if_neg (not_not_intro d)] at ec
  have s3 : gI σ 26 0 = gI σ 80 0 := h.2.2.2.1.2.2.1
  have s4 : gI σ 26 1 = gI σ 80 1 := h.2.2.2.1.2.2.2.1
  obtain ⟨k0, hk0, ek0⟩ := h.2.2.2.1.2.2.2.2.1
  obtain ⟨k1, hk1, ek1⟩ := h.2.2.2.1.2.2.2.2.2
  have hg : cGood (vw σ) N (gI σ 80 0) := hw.good hk0 ek0
  have r1 : 0 ≤ (gI σ 80 1).toInt ∧ (gI σ 80 1).toInt ≤ 100000 := by rw [ek1, pi_nI (by omega)]; omega
  have hv : ∀ n, n < N → gI σ (84 + n) 7 = gI σ 67 n := fun n hn => (hp.2.2.2.2.2.1 n hn).2.2.2.2.2.2.2
  have hv3 : cVd N (fun n => gI σ 67 n) := fun n hn => (hp.2.2.2.2.1 n hn).2.2.2.2.2.2
  obtain ⟨σ1, e, r, a1, a2, a3, a4, a5, a6, a7⟩ := s_rate (vd := fun n => gI σ 67 n) hw ⟨hc, pCa.of hca⟩ hv
  have c01 : gI σ1 26 0 = gI σ 80 0 := by rw [a2.2.1 26 0 (by unfold cRt cSl; omega)]; exact s3
  have c11 : gI σ1 26 1 = gI σ 80 1 := by rw [a2.2.1 26 1 (by unfold cRt cSl; omega)]; exact s4
  have el := s_look' (c1 := gI σ 80 1) (by omega) a5 c11 p1
  have eb := s_block' (c0 := gI σ 80 0) (c1 := gI σ 80 1) (by omega) a5 c01 c11 hg.1 r1 p2
  have el2 := a6 (fun n => if xS (vw σ) N R n < p1 then (xLs (vw σ) (fun n => gI σ 67 n) n).toInt else (gI σ 80 1).toInt)
  have eb2 := a6 (fun n => if xS (vw σ) N R n < p2 then 0 else if xLs (vw σ) (fun n => gI σ 67 n) n = 0 then (gI σ 80 0).toInt - (gI σ 80 1).toInt else -(gI σ 80 1).toInt)
  rw [el2] at el
  rw [eb2] at eb
  have hA1 : Ag (vw σ) σ1 := hA.fr a2 (fun a k q => cRt_pers q)
  have f67 : ∀ n, gI (sI σ1 57 0 0) 67 n = gI σ 67 n := fun n => by rw [gI_other (Or.inl (by omega)), a2.2.1 67 n (by unfold cRt cSl; omega)]
  obtain ⟨σ2, b1, b2, b3⟩ := s_findSc (vd := fun n => gI σ 67 n) hw hA1.th (fun n hn => f67 n)
  have hA2 : Ag (vw σ) σ2 := hA1.th.fr2 b2 (fun a k q => by rcases q with q | q <;> rw [q] <;> simp [scr])
  have g80 : ∀ j, gI σ2 80 j = gI σ 80 j := fun j => by rw [b2.2.1 80 j (by omega), gI_other (Or.inl (by omega)), a2.2.1 80 j (by unfold cRt cSl; omega)]
  have hco := s_costOf (vd := fun n => gI σ 67 n) (c0 := gI σ 80 0) (c1 := gI σ 80 1) hw hA2 (fun n hn => by rw [b2.2.1 67 n (by omega)]; exact f67 n) b3 (g80 0) (g80 1) p1 p2
  rw [xCo_eq hg hv3 d.1] at hco
  have em1 := em σ1
  rw [if_neg (not_not_intro c), if_neg (not_not_intro d), b1, Option.bind_some, hco, Option.bind_some] at em1
  unfold f_X5_priceOf at ec
  rw [a1, Option.bind_some, el, Option.bind_some, eb, Option.bind_some, wI_add] at ec
  exact ⟨_, σ1, σ2, ec, em1, ((h.ca hw (a2.mono (fun a k q => cRt_ask q)) a3.2).thr 0).fr (b2.mono (fun a k q => by rcases q with q | q <;> rw [q] <;> simp [scr]))⟩
