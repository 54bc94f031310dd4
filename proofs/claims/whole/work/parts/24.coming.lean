/-! ===== the reference takes a payment in ===== -/
theorem s_isBef {σ : aSt} {p q : Nat} (hp : p < 120) (hq : q < 120) : f_X12_isBefore (nI p) (nI q) σ = some (bI (bBf (gI σ) p q), σ) := by
  have bp : inB (nI p) 120 := ix_in hp (by omega)
  have bq : inB (nI q) 120 := ix_in hq (by omega)
  unfold f_X12_isBefore f_X12_isBefore_45 f_X12_isBefore_49 f_X12_isBefore_50
  simp only [if_pos bp, if_pos bq]
  rw [ix_cl (by omega), ix_cl (by omega)]
  unfold bBf
  by_cases c1 : gI σ 62 p < gI σ 62 q
  · rw [if_pos c1, if_pos v1_ok]
    rw [pi_lt] at c1
    simp [c1, bI]
  · rw [if_neg c1]
    rw [pi_lt] at c1
    by_cases c2 : gI σ 62 p = gI σ 62 q
    · rw [if_pos c2]
      by_cases c3 : gI σ 61 q ≤ gI σ 61 p
      · rw [if_pos c3, if_pos v0_ok]
        rw [pi_le] at c3
        rw [decide_eq_false c1, decide_eq_false (by omega : ¬ (gI σ 61 p).toInt < (gI σ 61 q).toInt)]
        simp [bI]
      · rw [if_neg c3, if_pos v1_ok]
        rw [pi_le] at c3
        rw [decide_eq_true ((pi_eq _ _).mp c2), decide_eq_true (by omega : (gI σ 61 p).toInt < (gI σ 61 q).toInt)]
        simp [bI]
    · rw [if_neg c2, if_pos v0_ok]
      rw [decide_eq_false c1, decide_eq_false (fun z => c2 ((pi_eq _ _).mpr z))]
      simp [bI]
theorem bBf_eq {g g' : Nat → Nat → Int32} {p q : Nat} (h1 : g 62 p = g' 62 p) (h2 : g 62 q = g' 62 q) (h3 : g 61 p = g' 61 p) (h4 : g 61 q = g' 61 q) : bBf g p q = bBf g' p q := by
  unfold bBf
  rw [h1, h2, h3, h4]
theorem s_comL {N : Nat} {g : Nat → Nat → Int32} {o : Nat → Nat} (hN : N < 120) (ho : ∀ i, i < N → o i < N) : ∀ (k f : Nat) (σ : aSt), k ≤ N → k < f → (∀ n, n ≤ N → gI σ 61 n = g 61 n ∧ gI σ 62 n = g 62 n) → gI σ 57 5 = nI N → (∀ i, i < k → gI σ 68 i = nI (o i)) → ∃ σ', f_X12_coming_181 f (nI N) (nI k) σ = some (nI N, σ') ∧ gN σ' = gN σ ∧ gI σ' 57 5 = nI (N + 1) ∧ (∀ a j, a ≠ 68 → ¬ (a = 57 ∧ j = 5) → gI σ' a j = gI σ a j) ∧ gR σ' = gR σ ∧ (∀ i, i ≤ k → gI σ' 68 i = nI (insO o N (insK g o N k) i)) ∧ (∀ i, k < i → gI σ' 68 i = gI σ 68 i) := by
  have fin : ∀ (k : Nat) (σ : aSt), k ≤ N → gI σ 57 5 = nI N → (∀ i, i < k → gI σ 68 i = nI (o i)) → insK g o N k = k → ∃ σ', f_X12_coming_226 (nI N) (nI k) σ = some (nI N, σ') ∧ gN σ' = gN σ ∧ gI σ' 57 5 = nI (N + 1) ∧ (∀ a j, a ≠ 68 → ¬ (a = 57 ∧ j = 5) → gI σ' a j = gI σ a j) ∧ gR σ' = gR σ ∧ (∀ i, i ≤ k → gI σ' 68 i = nI (insO o N (insK g o N k) i)) ∧ (∀ i, k < i → gI σ' 68 i = gI σ 68 i) := by
    intro k σ hk h5 hr hK
    refine ⟨sI (sI σ 68 k (nI N)) 57 5 (nI (N + 1)), ?_, rfl, gI_same _ _ _ _, fun a j q1 q2 => ?_, rfl, fun i hi => ?_, fun i hi => ?_⟩
    · unfold f_X12_coming_226
      rw [if_pos (ix_in (by omega) (by omega)), ix_cl (by omega), gI_other (Or.inl (by omega)), h5, nI_1]
    · rw [gI_other (by omega), gI_other (Or.inl q1)]
    · rw [gI_other (Or.inl (by omega)), hK]
      unfold insO
      by_cases z : i = k
      · subst z
        rw [gI_same, if_neg (by omega), if_pos rfl]
      · rw [gI_other (Or.inr z), if_pos (by omega), hr i (by omega)]
    · rw [gI_other (Or.inl (by omega)), gI_other (Or.inr (by omega))]
  intro k
  induction k with
  | zero =>
    intro f σ hk hf hv h5 hr
    obtain ⟨f, rfl⟩ : ∃ f', f = f' + 1 := ⟨f - 1, by omega⟩
    show ∃ σ', f_X12_coming_181_b (f_X12_coming_181 f) (nI N) (nI 0) σ = some (nI N, σ') ∧ _
    unfold f_X12_coming_181_b
    rw [if_pos (show nI 0 ≤ 0 from Int32.le_refl _)]
    exact fin 0 σ (by omega) h5 hr rfl
  | succ k ih =>
    intro f σ hk hf hv h5 hr
    obtain ⟨f, rfl⟩ : ∃ f', f = f' + 1 := ⟨f - 1, by omega⟩
    show ∃ σ', f_X12_coming_181_b (f_X12_coming_181 f) (nI N) (nI (k + 1)) σ = some (nI N, σ') ∧ _
    unfold f_X12_coming_181_b
    have ib : inB (nI k) 120 := ix_in (by omega) (by omega)
    have ib2 : inB (nI (k + 1)) 120 := ix_in (by omega) (by omega)
    have ok : o k < N := ho k (by omega)
    have hrk : gI σ 68 (nI k).toNatClampNeg = nI (o k) := by rw [ix_cl (by omega)]; exact hr k (by omega)
    have hnle : ¬ nI (k + 1) ≤ 0 := nI_nle (by omega) (by omega)
    rw [if_neg hnle, nI_s1, if_pos ib, hrk, s_isBef (by omega) (by omega)]
    simp only [Option.bind_some, bI_0]
    rw [bBf_eq (g' := g) (hv N (Nat.le_refl _)).2 (hv (o k) (by omega)).2 (hv N (Nat.le_refl _)).1 (hv (o k) (by omega)).1]
    by_cases hb : bBf g N (o k) = true
    · rw [if_neg (by rw [hb]; decide), if_pos ib, if_pos ib2, hrk, ix_cl (by omega), nI_mm]
      obtain ⟨σ', e1, e2, e3, e4, e5, e7, e8⟩ := ih f (sI σ 68 (k + 1) (nI (o k))) (by omega) (by omega) (fun n hn => by rw [gI_other (Or.inl (by omega)), gI_other (Or.inl (by omega))]; exact hv n hn) (by rw [gI_other (Or.inl (by omega))]; exact h5) (fun i hi => by rw [gI_other (Or.inr (by omega))]; exact hr i (by omega))
      have hK : insK g o N (k + 1) = insK g o N k := by
        show (if bBf g N (o k) = true then insK g o N k else k + 1) = _
        rw [if_pos hb]
      refine ⟨σ', e1, e2, e3, fun a j q1 q2 => ?_, e5, fun i hi => ?_, fun i hi => ?_⟩
      · rw [e4 a j q1 q2, gI_other (Or.inl q1)]
      · rw [hK]
        by_cases z : i = k + 1
        · subst z
          rw [e8 (k + 1) (by omega), gI_same]
          have := insK_le g o N k
          unfold insO
          rw [if_neg (by omega), if_neg (by omega)]
          rfl
        · exact e7 i (by omega)
      · rw [e8 i (by omega), gI_other (Or.inr (by omega))]
    · have hb' : bBf g N (o k) = false := by
        cases h : bBf g N (o k) with
        | true => exact absurd h hb
        | false => rfl
      rw [if_pos hb']
      refine fin (k + 1) σ hk h5 hr ?_
      show (if bBf g N (o k) = true then insK g o N k else k + 1) = _
      rw [if_neg hb]
theorem s_comBad {σ : aSt} {p1 p2 p3 p4 p5 p6 : Int32} (h : ¬ vld p1 p2 p3 p4 p5 p6) : f_X12_coming p1 p2 p3 p4 p5 p6 σ = some (-1000001, σ) := by
  unfold f_X12_coming f_X12_coming_81
  rw [s_in 0 999 0 999 rfl rfl]
  simp only [Option.bind_some, bI_0, decide_eq_false_iff_not]
  by_cases c1 : 0 ≤ p1 ∧ p1 ≤ 999
  case neg => rw [if_pos c1]
  rw [if_neg (not_not_intro c1), s_in 0 100000 0 100000 rfl rfl]
  simp only [Option.bind_some, bI_0, decide_eq_false_iff_not]
  by_cases c2 : 0 ≤ p2 ∧ p2 ≤ 100000
  case neg => rw [if_pos c2]
  rw [if_neg (not_not_intro c2), s_in 0 19 0 19 rfl rfl]
  simp only [Option.bind_some, bI_0, decide_eq_false_iff_not]
  by_cases c3 : 0 ≤ p3 ∧ p3 ≤ 19
  case neg => rw [if_pos c3]
  rw [if_neg (not_not_intro c3), s_in 0 19 0 19 rfl rfl]
  simp only [Option.bind_some, bI_0, decide_eq_false_iff_not]
  by_cases c4 : 0 ≤ p4 ∧ p4 ≤ 19
  case neg => rw [if_pos c4]
  rw [if_neg (not_not_intro c4)]
  by_cases c5 : p3 = p4
  · rw [if_pos c5]
  rw [if_neg c5, s_in 1 100000 1 100000 rfl rfl]
  simp only [Option.bind_some, bI_0, decide_eq_false_iff_not]
  by_cases c6 : 1 ≤ p5 ∧ p5 ≤ 100000
  case neg => rw [if_pos c6]
  rw [if_neg (not_not_intro c6), s_in 0 3 0 3 rfl rfl]
  simp only [Option.bind_some, bI_0, decide_eq_false_iff_not]
  by_cases c7 : 0 ≤ p6 ∧ p6 ≤ 3
  case neg => rw [if_pos c7]
  exact absurd ⟨c1, c2, c3, c4, c5, c6, c7⟩ h
theorem s_comOk {σ : aSt} {p1 p2 p3 p4 p5 p6 : Int32} (h : vld p1 p2 p3 p4 p5 p6) : f_X12_coming p1 p2 p3 p4 p5 p6 σ = (f_X12_numberOf (p1) σ).bind (fun q20 => (if q20.1 = (-1000000) then (if (gI q20.2 57 5) = 120 then some ((-1000003), q20.2) else (if inB (gI q20.2 57 5) 120 then (if inB (gI q20.2 57 5) 120 then (if inB (gI q20.2 57 5) 120 then f_X12_coming_139 (p4) (p5) (p6) (gI q20.2 57 5) (sI (sI (sI q20.2 61 (gI q20.2 57 5).toNatClampNeg (p1)) 62 (gI q20.2 57 5).toNatClampNeg (p2)) 63 (gI q20.2 57 5).toNatClampNeg (p3)) else none) else none) else none)) else some ((-1000002), q20.2))) := by
  obtain ⟨c1, c2, c3, c4, c5, c6, c7⟩ := h
  unfold f_X12_coming
  rw [s_in 0 999 0 999 rfl rfl]
  simp only [Option.bind_some, bI_0, decide_eq_false_iff_not]
  rw [if_neg (not_not_intro c1), s_in 0 100000 0 100000 rfl rfl]
  simp only [Option.bind_some, bI_0, decide_eq_false_iff_not]
  rw [if_neg (not_not_intro c2), s_in 0 19 0 19 rfl rfl]
  simp only [Option.bind_some, bI_0, decide_eq_false_iff_not]
  rw [if_neg (not_not_intro c3), s_in 0 19 0 19 rfl rfl]
  simp only [Option.bind_some, bI_0, decide_eq_false_iff_not]
  rw [if_neg (not_not_intro c4), if_neg c5, s_in 1 100000 1 100000 rfl rfl]
  simp only [Option.bind_some, bI_0, decide_eq_false_iff_not]
  rw [if_neg (not_not_intro c6), s_in 0 3 0 3 rfl rfl]
  simp only [Option.bind_some, bI_0, decide_eq_false_iff_not]
  rw [if_neg (not_not_intro c7)]
theorem s_comNew {σ : aSt} {N : Nat} {g : Nat → Nat → Int32} {o : Nat → Nat} (hd : dW N g o) (hm : pM σ N g o) (hN : N < 120) {p1 p2 p3 p4 p5 p6 : Int32} (hv : vld p1 p2 p3 p4 p5 p6) (hf : ∀ n, n < N → g 61 n ≠ p1) : ∃ σ1, f_X12_coming p1 p2 p3 p4 p5 p6 σ = some (nI N, σ1) ∧ pM σ1 (N + 1) (gAdd g N p1 p2 p3 p4 p5 p6) (insO o N (insK (gAdd g N p1 p2 p3 p4 p5 p6) o N N)) ∧ Fr cM σ σ1 := by
  obtain ⟨d1, d2, d3, d4, d5⟩ := hd
  obtain ⟨m1, m2, m3⟩ := hm
  generalize hg' : gAdd g N p1 p2 p3 p4 p5 p6 = g'
  have old : ∀ a n, n ≠ N → g' a n = g a n := fun a n q => by rw [← hg']; exact gAdd_old q
  have n61 : g' 61 N = p1 := by rw [← hg']; simp [gAdd]
  have n62 : g' 62 N = p2 := by rw [← hg']; simp [gAdd]
  have n63 : g' 63 N = p3 := by rw [← hg']; simp [gAdd]
  have n64 : g' 64 N = p4 := by rw [← hg']; simp [gAdd]
  have n65 : g' 65 N = p5 := by rw [← hg']; simp [gAdd]
  have n66 : g' 66 N = p6 := by rw [← hg']; simp [gAdd]
  have n67 : g' 67 N = -1000000 := by rw [← hg']; simp [gAdd]
  have nn : f_X12_numberOf p1 σ = some (-1000000, σ) := s_numNone d1 m1 (-1000000) aN 0 (by omega) (by show N < 0 + 1000000; omega) (fun p _ hp => by rw [(m2 p hp).1]; exact hf p hp)
  have ib : inB (nI N) 120 := ix_in hN (by omega)
  have hne : ¬ nI N = 120 := fun z => by
    have := congrArg Int32.toInt z
    rw [pi_nI (by omega)] at this
    have e : (120 : Int32).toInt = 120 := rfl
    omega
  generalize hτ : sI (sI (sI (sI (sI (sI (sI σ 61 N p1) 62 N p2) 63 N p3) 64 N p4) 65 N p5) 66 N p6) 67 N (-1000000) = τ
  have tv : ∀ a k, a ≠ 61 ∨ k ≠ N → a ≠ 62 ∨ k ≠ N → a ≠ 63 ∨ k ≠ N → a ≠ 64 ∨ k ≠ N → a ≠ 65 ∨ k ≠ N → a ≠ 66 ∨ k ≠ N → a ≠ 67 ∨ k ≠ N → gI τ a k = gI σ a k := fun a k q1 q2 q3 q4 q5 q6 q7 => by
    rw [← hτ, gI_other q7, gI_other q6, gI_other q5, gI_other q4, gI_other q3, gI_other q2, gI_other q1]
  have to : ∀ a k, k ≠ N → gI τ a k = gI σ a k := fun a k q => tv a k (Or.inr q) (Or.inr q) (Or.inr q) (Or.inr q) (Or.inr q) (Or.inr q) (Or.inr q)
  have ta : ∀ a k, a < 61 ∨ 67 < a → gI τ a k = gI σ a k := fun a k q => tv a k (Or.inl (by omega)) (Or.inl (by omega)) (Or.inl (by omega)) (Or.inl (by omega)) (Or.inl (by omega)) (Or.inl (by omega)) (Or.inl (by omega))
  have w61 : gI τ 61 N = p1 := by rw [← hτ]; simp [gI_sI]
  have w62 : gI τ 62 N = p2 := by rw [← hτ]; simp [gI_sI]
  have w63 : gI τ 63 N = p3 := by rw [← hτ]; simp [gI_sI]
  have w64 : gI τ 64 N = p4 := by rw [← hτ]; simp [gI_sI]
  have w65 : gI τ 65 N = p5 := by rw [← hτ]; simp [gI_sI]
  have w66 : gI τ 66 N = p6 := by rw [← hτ]; simp [gI_sI]
  have w67 : gI τ 67 N = -1000000 := by rw [← hτ]; simp [gI_sI]
  obtain ⟨σ1, e1, e2, e3, e4, e5, e7, e8⟩ := s_comL (N := N) (g := g') (o := o) hN d4 N aN τ (Nat.le_refl _) (by show N < 1000000; omega) (fun n hn => by
    by_cases z : n = N
    · subst z
      rw [w61, w62, n61, n62]
      exact ⟨rfl, rfl⟩
    · rw [to _ _ z, to _ _ z, old _ _ z, old _ _ z]
      exact ⟨(m2 n (by omega)).1, (m2 n (by omega)).2.1⟩) (by rw [ta _ _ (by omega), m1]) (fun i hi => by rw [ta _ _ (by omega)]; exact m3 i hi)
  refine ⟨σ1, ?_, ⟨e3, fun n hn => ?_, fun i hi => e7 i (by omega)⟩, ⟨by rw [e2, ← hτ]; rfl, fun a k q => ?_, fun a k q => by rw [e5, ← hτ]; rfl⟩⟩
  · rw [s_comOk hv, nn]
    simp only [Option.bind_some]
    rw [if_pos trivial, m1, if_neg hne, if_pos ib, if_pos ib, if_pos ib]
    unfold f_X12_coming_139 f_X12_coming_166
    rw [if_pos ib, if_pos ib, if_pos ib, if_pos ib]
    rw [ix_cl (by omega), hτ, ta 57 5 (by omega), m1]
    exact e1
  · have v : ∀ a, a ≠ 68 → a ≠ 57 → gI σ1 a n = gI τ a n := fun a q1 q2 => e4 a n q1 (fun z => q2 z.1)
    rw [v 61 (by omega) (by omega), v 62 (by omega) (by omega), v 63 (by omega) (by omega), v 64 (by omega) (by omega), v 65 (by omega) (by omega), v 66 (by omega) (by omega), v 67 (by omega) (by omega)]
    by_cases z : n = N
    · subst z
      rw [w61, w62, w63, w64, w65, w66, w67, n61, n62, n63, n64, n65, n66, n67]
      exact ⟨rfl, rfl, rfl, rfl, rfl, rfl, rfl⟩
    · rw [to _ _ z, to _ _ z, to _ _ z, to _ _ z, to _ _ z, to _ _ z, to _ _ z, old _ _ z, old _ _ z, old _ _ z, old _ _ z, old _ _ z, old _ _ z, old _ _ z]
      exact m2 n (by omega)
  · unfold cM at q
    rw [e4 a k (by omega) (by omega), ta a k (by omega)]
