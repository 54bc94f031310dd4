/-! ===== one payment taken in: the class, and coming (the reference) ===== -/
theorem dbl {a b : Prop} [Decidable a] [Decidable b] (h : a ↔ b) : decide a = decide b := by
  by_cases ha : a
  · rw [decide_eq_true ha, decide_eq_true (h.mp ha)]
  · rw [decide_eq_false ha, decide_eq_false (fun z => ha (h.mpr z))]
theorem s_comes {σ : aSt} {g : Nat → Nat → Int32} {p q : Nat} (hp : 84 + p < gN σ) (hq : 84 + q < gN σ) (p0 : gI σ (84 + p) 0 = g 61 p) (p1 : gI σ (84 + p) 1 = g 62 p) (q0 : gI σ (84 + q) 0 = g 61 q) (q1 : gI σ (84 + q) 1 = g 62 q) : f_X4_comesBefore (84 + p) (some (84 + q)) σ = some (bI (bBf g p q), σ) := by
  unfold f_X4_comesBefore f_X4_comesBefore_46
  rw [if_pos ⟨aSh_pay (by omega), hp⟩, oC_some, if_pos ⟨aSh_pay (by omega), hq⟩, p0, p1, q0, q1]
  unfold bBf
  by_cases c1 : g 62 p = g 62 q
  · rw [if_pos c1]
    have e1 := (pi_eq _ _).mp c1
    by_cases c2 : g 61 q ≤ g 61 p
    · rw [if_pos c2, if_pos v0_ok]
      rw [pi_le] at c2
      rw [decide_eq_false (by omega : ¬ (g 62 p).toInt < (g 62 q).toInt), decide_eq_false (by omega : ¬ (g 61 p).toInt < (g 61 q).toInt)]
      simp [bI]
    · rw [if_neg c2, if_pos v1_ok]
      rw [pi_le] at c2
      rw [decide_eq_true (by omega : (g 62 p).toInt = (g 62 q).toInt), decide_eq_true (by omega : (g 61 p).toInt < (g 61 q).toInt)]
      simp [bI]
  · rw [if_neg c1]
    have e1 : (g 62 p).toInt ≠ (g 62 q).toInt := fun z => c1 ((pi_eq _ _).mpr z)
    by_cases c2 : g 62 q ≤ g 62 p
    · rw [if_pos c2, if_pos v0_ok]
      rw [pi_le] at c2
      rw [decide_eq_false (by omega : ¬ (g 62 p).toInt < (g 62 q).toInt), decide_eq_false e1]
      simp [bI]
    · rw [if_neg c2, if_pos v1_ok]
      rw [pi_le] at c2
      rw [decide_eq_true (by omega : (g 62 p).toInt < (g 62 q).toInt)]
      simp [bI]
theorem nI_mm (k : Nat) : nI (k + 1) + (-1) = nI k := pk_m1 k
theorem nI_s1 (k : Nat) : nI (k + 1) - 1 = nI k := nI_pred k
theorem s_takeL {N : Nat} {g : Nat → Nat → Int32} {o : Nat → Nat} {t1 : Nat} (hN : N < 120) (ho : ∀ i, i < N → o i < N) (ht : t1 < 1000) (hgt : g 61 N = nI t1) : ∀ (k f : Nat) (σ : aSt), k ≤ N → k < f → gN σ = 85 + N → (∀ n, n ≤ N → gI σ (84 + n) 0 = g 61 n ∧ gI σ (84 + n) 1 = g 62 n) → gI σ 2 2 = nI N → (∀ i, i < k → gR σ 4 i = some (84 + o i)) → ∃ σ', f_X3_take_15 f (84 + N) (nI k) σ = some ((), σ') ∧ gN σ' = gN σ ∧ gI σ' 2 2 = nI (N + 1) ∧ (∀ a j, ¬ (a = 2 ∧ j = 2) → gI σ' a j = gI σ a j) ∧ (∀ a j, a ≠ 3 → a ≠ 4 → gR σ' a j = gR σ a j) ∧ (∀ t, gR σ' 3 t = if t = t1 then some (84 + N) else gR σ 3 t) ∧ (∀ i, i ≤ k → gR σ' 4 i = some (84 + insO o N (insK g o N k) i)) ∧ (∀ i, k < i → gR σ' 4 i = gR σ 4 i) := by
  have fin : ∀ (k : Nat) (σ : aSt), k ≤ N → gN σ = 85 + N → (∀ n, n ≤ N → gI σ (84 + n) 0 = g 61 n ∧ gI σ (84 + n) 1 = g 62 n) → gI σ 2 2 = nI N → (∀ i, i < k → gR σ 4 i = some (84 + o i)) → insK g o N k = k → ∃ σ', f_X3_take_54 (84 + N) (nI k) σ = some ((), σ') ∧ gN σ' = gN σ ∧ gI σ' 2 2 = nI (N + 1) ∧ (∀ a j, ¬ (a = 2 ∧ j = 2) → gI σ' a j = gI σ a j) ∧ (∀ a j, a ≠ 3 → a ≠ 4 → gR σ' a j = gR σ a j) ∧ (∀ t, gR σ' 3 t = if t = t1 then some (84 + N) else gR σ 3 t) ∧ (∀ i, i ≤ k → gR σ' 4 i = some (84 + insO o N (insK g o N k) i)) ∧ (∀ i, k < i → gR σ' 4 i = gR σ 4 i) := by
    intro k σ hk hg hf h2 hr hK
    have e0 : gI (sR σ 4 k (some (84 + N))) (84 + N) 0 = nI t1 := by rw [gI_sR, (hf N (Nat.le_refl _)).1, hgt]
    refine ⟨sI (sR (sR σ 4 k (some (84 + N))) 3 t1 (some (84 + N))) 2 2 (nI (N + 1)), ?_, rfl, gI_same _ _ _ _, fun a j q => ?_, fun a j q1 q2 => ?_, fun t => ?_, fun i hi => ?_, fun i hi => ?_⟩
    · unfold f_X3_take_54
      rw [if_pos (ix_in (by omega) (by omega)), ix_cl (by omega), if_pos ⟨aSh_pay (by omega), by omega⟩, e0, if_pos (ix_in ht (by omega)), ix_cl (by omega), gI_sR, gI_sR, h2, nI_1]
    · rw [gI_other (by omega)]
      rfl
    · rw [gR_sI, gR_sR, if_neg q1, gR_sR, if_neg q2]
    · rw [gR_sI, gR_sR, if_pos rfl]
      by_cases z : t = t1
      · rw [if_pos z, if_pos z]
      · rw [if_neg z, if_neg z, gR_sR, if_neg (by omega)]
    · rw [gR_sI, gR_sR, if_neg (by omega), gR_sR, if_pos rfl, hK]
      unfold insO
      by_cases z : i = k
      · rw [if_pos z, if_neg (by omega), if_pos z]
      · rw [if_neg z, if_pos (by omega), hr i (by omega)]
    · rw [gR_sI, gR_sR, if_neg (by omega), gR_sR, if_pos rfl, if_neg (by omega)]
  intro k
  induction k with
  | zero =>
    intro f σ hk hf hg hv h2 hr
    obtain ⟨f, rfl⟩ : ∃ f', f = f' + 1 := ⟨f - 1, by omega⟩
    show ∃ σ', f_X3_take_15_b (f_X3_take_15 f) (84 + N) (nI 0) σ = some ((), σ') ∧ _
    unfold f_X3_take_15_b
    rw [if_pos (show nI 0 ≤ 0 from Int32.le_refl _)]
    exact fin 0 σ (by omega) hg hv h2 hr rfl
  | succ k ih =>
    intro f σ hk hf hg hv h2 hr
    obtain ⟨f, rfl⟩ : ∃ f', f = f' + 1 := ⟨f - 1, by omega⟩
    show ∃ σ', f_X3_take_15_b (f_X3_take_15 f) (84 + N) (nI (k + 1)) σ = some ((), σ') ∧ _
    unfold f_X3_take_15_b
    have ib : inB (nI k) 120 := ix_in (by omega) (by omega)
    have ok : o k < N := ho k (by omega)
    have hrk : gR σ 4 (nI k).toNatClampNeg = some (84 + o k) := by rw [ix_cl (by omega)]; exact hr k (by omega)
    have hnle : ¬ nI (k + 1) ≤ 0 := nI_nle (by omega) (by omega)
    rw [if_neg hnle, nI_s1, if_pos ib, if_pos ⟨aSh_pay (by omega), by omega⟩, hrk, s_comes (g := g) (by omega) (by omega) (hv N (Nat.le_refl _)).1 (hv N (Nat.le_refl _)).2 (hv (o k) (by omega)).1 (hv (o k) (by omega)).2]
    simp only [Option.bind_some, bI_0]
    by_cases hb : bBf g N (o k) = true
    · rw [if_neg (by rw [hb]; decide), if_pos ib, hrk, oC_some, if_pos (ix_in (by omega) (by omega)), ix_cl (by omega), if_pos ⟨aSh_pay (by omega), by omega⟩, nI_mm]
      obtain ⟨σ', e1, e2, e3, e4, e5, e6, e7, e8⟩ := ih f (sR σ 4 (k + 1) (some (84 + o k))) (by omega) (by omega) hg hv h2 (fun i hi => by rw [gR_sR, if_pos rfl, if_neg (by omega)]; exact hr i (by omega))
      have hK : insK g o N (k + 1) = insK g o N k := by
        show (if bBf g N (o k) = true then insK g o N k else k + 1) = _
        rw [if_pos hb]
      refine ⟨σ', e1, e2, e3, e4, fun a j q1 q2 => ?_, fun t => ?_, fun i hi => ?_, fun i hi => ?_⟩
      · rw [e5 a j q1 q2, gR_sR, if_neg q2]
      · rw [e6 t, gR_sR, if_neg (show ¬ (3 : Nat) = 4 by omega)]
      · rw [hK]
        by_cases z : i = k + 1
        · subst z
          rw [e8 (k + 1) (by omega), gR_sR, if_pos rfl, if_pos rfl]
          have := insK_le g o N k
          unfold insO
          rw [if_neg (by omega), if_neg (by omega)]
          rfl
        · exact e7 i (by omega)
      · rw [e8 i (by omega), gR_sR, if_pos rfl, if_neg (by omega)]
    · have hb' : bBf g N (o k) = false := by
        cases h : bBf g N (o k) with
        | true => exact absurd h hb
        | false => rfl
      rw [if_pos hb']
      refine fin (k + 1) σ hk hg hv h2 hr ?_
      show (if bBf g N (o k) = true then insK g o N k else k + 1) = _
      rw [if_neg hb]
def vld (p1 p2 p3 p4 p5 p6 : Int32) : Prop := (0 ≤ p1 ∧ p1 ≤ 999) ∧ (0 ≤ p2 ∧ p2 ≤ 100000) ∧ (0 ≤ p3 ∧ p3 ≤ 19) ∧ (0 ≤ p4 ∧ p4 ≤ 19) ∧ ¬ p3 = p4 ∧ (1 ≤ p5 ∧ p5 ≤ 100000) ∧ (0 ≤ p6 ∧ p6 ≤ 3)
theorem s_admBad {σ : aSt} {p1 p2 p3 p4 p5 p6 : Int32} (h : ¬ vld p1 p2 p3 p4 p5 p6) : f_X11_admit p1 p2 p3 p4 p5 p6 σ = some (-1000001, σ) := by
  have w : (0 ≤ 1 ∧ 0 ≤ 8) := by omega
  unfold f_X11_admit f_X11_admit_21 f_X11_admit_51 f_X11_admit_75
  rw [s_within]
  simp only [Option.bind_some, bI_0, decide_eq_false_iff_not, if_pos w]
  by_cases c1 : 0 ≤ p1 ∧ p1 ≤ 999
  case neg => rw [if_pos c1]
  rw [if_neg (not_not_intro c1), s_within]
  simp only [Option.bind_some, bI_0, decide_eq_false_iff_not]
  by_cases c2 : 0 ≤ p2 ∧ p2 ≤ 100000
  case neg => rw [if_pos c2]
  rw [if_neg (not_not_intro c2), s_within]
  simp only [Option.bind_some, bI_0, decide_eq_false_iff_not]
  by_cases c3 : 0 ≤ p3 ∧ p3 ≤ 19
  case neg => rw [if_pos c3]
  rw [if_neg (not_not_intro c3), s_within]
  simp only [Option.bind_some, bI_0, decide_eq_false_iff_not]
  by_cases c4 : 0 ≤ p4 ∧ p4 ≤ 19
  case neg => rw [if_pos c4]
  rw [if_neg (not_not_intro c4)]
  by_cases c5 : p3 = p4
  · rw [if_pos c5]
  rw [if_neg c5, s_within]
  simp only [Option.bind_some, bI_0, decide_eq_false_iff_not]
  by_cases c6 : 1 ≤ p5 ∧ p5 ≤ 100000
  case neg => rw [if_pos c6]
  rw [if_neg (not_not_intro c6), s_within]
  simp only [Option.bind_some, bI_0, decide_eq_false_iff_not]
  by_cases c7 : 0 ≤ p6 ∧ p6 ≤ 3
  case neg => rw [if_pos c7]
  exact absurd ⟨c1, c2, c3, c4, c5, c6, c7⟩ h
theorem s_admOk {σ : aSt} {p1 p2 p3 p4 p5 p6 : Int32} (h : vld p1 p2 p3 p4 p5 p6) : f_X11_admit p1 p2 p3 p4 p5 p6 σ = (f_X3_find (p1) σ).bind (fun q20 => (oC (q20.1) ((if (gI q20.2 2 2) < 120 then (if aSh (gN q20.2) = 4 ∧ 0 + 1 ≤ 1 ∧ 0 + 8 ≤ 8 then (f_X4_init ((gN q20.2)) (p1) (p2) (p3) (p4) (p5) (p6) (gI (sN q20.2) 2 2) (sN q20.2)).bind (fun q26 => (f_X3_take ((gN q20.2)) q26.2).bind (fun q28 => (f_X2_forget q28.2).bind (fun q30 => (if aSh ((gN q20.2)) = 4 ∧ (gN q20.2) < gN q30.2 then some (gI q30.2 (gN q20.2) 6, q30.2) else none)))) else none) else some ((-1000003), q20.2))) (fun a22 => some ((-1000002), q20.2)))) := by
  obtain ⟨c1, c2, c3, c4, c5, c6, c7⟩ := h
  unfold f_X11_admit
  rw [s_within]
  simp only [Option.bind_some, bI_0, decide_eq_false_iff_not]
  rw [if_neg (not_not_intro c1), s_within]
  simp only [Option.bind_some, bI_0, decide_eq_false_iff_not]
  rw [if_neg (not_not_intro c2), s_within]
  simp only [Option.bind_some, bI_0, decide_eq_false_iff_not]
  rw [if_neg (not_not_intro c3), s_within]
  simp only [Option.bind_some, bI_0, decide_eq_false_iff_not]
  rw [if_neg (not_not_intro c4), if_neg c5, s_within]
  simp only [Option.bind_some, bI_0, decide_eq_false_iff_not]
  rw [if_neg (not_not_intro c6), s_within]
  simp only [Option.bind_some, bI_0, decide_eq_false_iff_not]
  rw [if_neg (not_not_intro c7)]
