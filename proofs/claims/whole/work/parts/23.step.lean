/-! ===== one payment offered: both sides ===== -/
def cA (a k : Nat) : Prop := a = 23 ∨ 84 ≤ a ∨ a = 3 ∨ a = 4 ∨ (a = 2 ∧ k = 2)
def cM (a k : Nat) : Prop := (61 ≤ a ∧ a ≤ 68) ∨ (a = 57 ∧ k = 5)
/-- a frame that says nothing of how many cells there are -/
def Fx (C : Nat → Nat → Prop) (σ σ' : aSt) : Prop := (∀ a k, ¬ C a k → gI σ' a k = gI σ a k) ∧ (∀ a k, ¬ C a k → gR σ' a k = gR σ a k)
theorem Fx.rf {C : Nat → Nat → Prop} {σ : aSt} : Fx C σ σ := ⟨fun _ _ _ => rfl, fun _ _ _ => rfl⟩
theorem Fx.tr {C : Nat → Nat → Prop} {σ σ1 σ2 : aSt} (h1 : Fx C σ σ1) (h2 : Fx C σ1 σ2) : Fx C σ σ2 := ⟨fun a k h => (h2.1 a k h).trans (h1.1 a k h), fun a k h => (h2.2 a k h).trans (h1.2 a k h)⟩
theorem Fx.mono {C D : Nat → Nat → Prop} {σ σ' : aSt} (h : Fx C σ σ') (hs : ∀ a k, C a k → D a k) : Fx D σ σ' := ⟨fun a k q => h.1 a k (fun z => q (hs a k z)), fun a k q => h.2 a k (fun z => q (hs a k z))⟩
theorem Fr.fx {C : Nat → Nat → Prop} {σ σ' : aSt} (h : Fr C σ σ') : Fx C σ σ' := h.2
theorem s_init {σ : aSt} {a : Nat} (p1 p2 p3 p4 p5 p6 p7 : Int32) (ha : 84 ≤ a) (hg : a < gN σ) : ∃ σ', f_X4_init a p1 p2 p3 p4 p5 p6 p7 σ = some ((), σ') ∧ gN σ' = gN σ ∧ gR σ' = gR σ ∧ (∀ b k, b ≠ a → gI σ' b k = gI σ b k) ∧ gI σ' a 0 = p1 ∧ gI σ' a 1 = p2 ∧ gI σ' a 2 = p3 ∧ gI σ' a 3 = p4 ∧ gI σ' a 4 = p5 ∧ gI σ' a 5 = p6 ∧ gI σ' a 6 = p7 ∧ gI σ' a 7 = -1000000 := by
  unfold f_X4_init f_X4_init_20 f_X4_init_37
  have s : aSh a = 4 := aSh_pay ha
  rw [if_pos ⟨s, hg⟩, if_pos ⟨s, hg⟩, if_pos ⟨s, hg⟩]
  refine ⟨_, rfl, rfl, rfl, fun b k hb => ?_, ?_, ?_, ?_, ?_, ?_, ?_, ?_, ?_⟩ <;> simp [gI_sI, *]
theorem s_fillRL (a : Nat) (v l : Int32) : ∀ (n : Nat) (k : Int32) (σ σ' : aSt), f_J7_fill_53178_5 n a v k l σ = some ((), σ') → gR σ' = gR σ := by
  intro n
  induction n with
  | zero => intro k σ σ' h; cases h
  | succ n ih =>
    intro k σ σ' h
    have h' : f_J7_fill_53178_5_b (f_J7_fill_53178_5 n) a v k l σ = some ((), σ') := h
    unfold f_J7_fill_53178_5_b at h'
    split at h'
    · cases h'; rfl
    · split at h'
      · split at h'
        · exact (ih _ _ _ h').trans rfl
        · cases h'
      · cases h'
theorem s_fillR (a : Nat) (v : Int32) (σ σ' : aSt) (h : f_J7_fill_53178 a v σ = some ((), σ')) (b k : Nat) : gR σ' b k = gR σ b k := by
  unfold f_J7_fill_53178 at h
  split at h
  · rw [s_fillRL _ _ _ _ _ _ _ h]
  · cases h
theorem s_admNew {σ : aSt} {N : Nat} {g : Nat → Nat → Int32} {o : Nat → Nat} (hd : dW N g o) (hc : pC σ N g o) (hN : N < 120) {t1 : Nat} {p2 p3 p4 p5 p6 : Int32} (k1 : t1 < 1000) (hv : vld (nI t1) p2 p3 p4 p5 p6) (hf : ∀ n, n < N → g 61 n ≠ nI t1) : ∃ σ1, f_X11_admit (nI t1) p2 p3 p4 p5 p6 σ = some (nI N, σ1) ∧ pC σ1 (N + 1) (gAdd g N (nI t1) p2 p3 p4 p5 p6) (insO o N (insK (gAdd g N (nI t1) p2 p3 p4 p5 p6) o N N)) ∧ Fx cA σ σ1 ∧ ∀ j, j < 240 → gI σ1 23 j = -1 := by
  obtain ⟨d1, d2, d3, d4, d5⟩ := hd
  obtain ⟨c1, c2, c3, c4, c5⟩ := hc
  have hnone : gR σ 3 t1 = none := by
    rcases c4 t1 k1 with ⟨q, -⟩ | ⟨n, q1, q2, -⟩
    · exact q
    · exact absurd q2 (hf n q1)
  generalize hg' : gAdd g N (nI t1) p2 p3 p4 p5 p6 = g'
  have old : ∀ a n, n ≠ N → g' a n = g a n := fun a n q => by rw [← hg']; exact gAdd_old q
  have n61 : g' 61 N = nI t1 := by rw [← hg']; simp [gAdd]
  have n62 : g' 62 N = p2 := by rw [← hg']; simp [gAdd]
  have n63 : g' 63 N = p3 := by rw [← hg']; simp [gAdd]
  have n64 : g' 64 N = p4 := by rw [← hg']; simp [gAdd]
  have n65 : g' 65 N = p5 := by rw [← hg']; simp [gAdd]
  have n66 : g' 66 N = p6 := by rw [← hg']; simp [gAdd]
  have n67 : g' 67 N = -1000000 := by rw [← hg']; simp [gAdd]
  have hsN : gN (sN σ) = 85 + N := by rw [gN_sN, c1]; omega
  have eN : ∀ a k, a ≠ 84 + N → gI (sN σ) a k = gI σ a k := fun a k q => by rw [gI_sN, c1, if_neg q]
  have eR : ∀ a k, a ≠ 84 + N → gR (sN σ) a k = gR σ a k := fun a k q => by rw [gR_sN, c1, if_neg q]
  obtain ⟨σ1, i1, i2, i3, i4, j0, j1, j2, j3, j4, j5, j6, j7⟩ := s_init (σ := sN σ) (a := 84 + N) (nI t1) p2 p3 p4 p5 p6 (nI N) (by omega) (by omega)
  have old1 : ∀ a k, a ≠ 84 + N → gI σ1 a k = gI σ a k := fun a k q => by rw [i4 a k q, eN a k q]
  have oldR : ∀ a k, a ≠ 84 + N → gR σ1 a k = gR σ a k := fun a k q => by rw [i3, eR a k q]
  obtain ⟨σ2, t1e, t2, t3, t4, t5, t6, t7, t8⟩ := s_takeL (N := N) (g := g') (o := o) (t1 := t1) hN d4 k1 n61 N aN σ1 (Nat.le_refl _) (by show N < 1000000; omega) (by omega) (fun n hn => by
    by_cases z : n = N
    · subst z
      rw [j0, j1, n61, n62]
      exact ⟨rfl, rfl⟩
    · rw [old1 _ _ (by omega), old1 _ _ (by omega), old _ _ z, old _ _ z]
      exact ⟨(c3 n (by omega)).1, (c3 n (by omega)).2.1⟩) (by rw [old1 2 2 (by omega), c2]) (fun i hi => by rw [oldR 4 i (by omega)]; exact c5 i hi)
  obtain ⟨σ3, f1, f2, f3, f4⟩ := s_forget (σ := σ2) (by rw [t2, i2, hsN]; omega)
  have g3 : gN σ3 = 85 + N := by rw [f2.1, t2, i2, hsN]
  have v3 : ∀ a k, a ≠ 23 → ¬ (a = 2 ∧ k = 2) → gI σ3 a k = gI σ1 a k := fun a k q1 q2 => by rw [f2.2.1 a k q1, t4 a k q2]
  have r3 : ∀ a k, gR σ3 a k = gR σ2 a k := fun a k => by
    by_cases z : a = 23
    · subst z
      have := s_fill 23 (-1) σ2 rfl (by decide) (by rw [t2, i2, hsN]; omega)
      obtain ⟨σ', e1, e2, -, -⟩ := this
      unfold f_X2_forget at f1
      rw [e1] at f1
      simp only [Option.bind_some, Option.some.injEq, Prod.mk.injEq, true_and] at f1
      by_cases zk : k < 240
      · rw [← f1]
        exact s_fillR _ _ _ _ e1 23 k
      · rw [← f1]
        exact s_fillR _ _ _ _ e1 23 k
    · exact f2.2.2 a k z
  refine ⟨σ3, ?_, ⟨by omega, ?_, fun n hn => ?_, fun t ht => ?_, fun i hi => ?_⟩, ⟨fun a k q => ?_, fun a k q => ?_⟩, f4⟩
  · rw [s_admOk hv, s_find0, if_pos hv.1, ix_cl (by omega), hnone]
    simp only [Option.bind_some, oC_none]
    rw [c2, if_pos (show nI N < 120 by rw [show (120 : Int32) = nI 120 from rfl, nI_ltI (by omega) (by omega)]; exact hN), c1, if_pos ⟨aSh_pay (by omega), by omega, by omega⟩, eN 2 2 (by omega), c2, i1]
    simp only [Option.bind_some]
    unfold f_X3_take
    rw [old1 2 2 (by omega), c2, if_pos (show nI N < 120 by rw [show (120 : Int32) = nI 120 from rfl, nI_ltI (by omega) (by omega)]; exact hN), t1e]
    simp only [Option.bind_some]
    rw [f1]
    simp only [Option.bind_some]
    rw [if_pos ⟨aSh_pay (by omega), by omega⟩, v3 _ _ (by omega) (by omega), j6]
  · rw [f2.2.1 2 2 (by omega), t3]
  · by_cases z : n = N
    · subst z
      rw [v3 _ _ (by omega) (by omega), v3 _ _ (by omega) (by omega), v3 _ _ (by omega) (by omega), v3 _ _ (by omega) (by omega), v3 _ _ (by omega) (by omega), v3 _ _ (by omega) (by omega), v3 _ _ (by omega) (by omega), v3 _ _ (by omega) (by omega), j0, j1, j2, j3, j4, j5, j6, j7, n61, n62, n63, n64, n65, n66, n67]
      exact ⟨rfl, rfl, rfl, rfl, rfl, rfl, rfl, rfl⟩
    · have w : ∀ k, gI σ3 (84 + n) k = gI σ (84 + n) k := fun k => by rw [v3 _ _ (by omega) (by omega), old1 _ _ (by omega)]
      rw [w, w, w, w, w, w, w, w, old _ _ z, old _ _ z, old _ _ z, old _ _ z, old _ _ z, old _ _ z, old _ _ z]
      exact c3 n (by omega)
  · rw [r3, t6, oldR 3 t (by omega)]
    by_cases z : t = t1
    · subst z
      rw [if_pos rfl]
      exact Or.inr ⟨N, by omega, n61, rfl⟩
    · rw [if_neg z]
      rcases c4 t ht with ⟨q1, q2⟩ | ⟨n, q1, q2, q3⟩
      · refine Or.inl ⟨q1, fun n hn => ?_⟩
        by_cases z2 : n = N
        · subst z2
          rw [n61]
          intro h
          have := congrArg Int32.toInt h
          rw [pi_nI (by omega), pi_nI (by omega)] at this
          omega
        · rw [old _ _ z2]
          exact q2 n (by omega)
      · exact Or.inr ⟨n, by omega, by rw [old _ _ (by omega)]; exact q2, q3⟩
  · rw [r3, t7 i (by omega)]
  · unfold cA at q
    rw [v3 _ _ (by omega) (by omega), old1 _ _ (by omega)]
  · unfold cA at q
    rw [r3, t5 _ _ (by omega) (by omega), oldR _ _ (by omega)]
