/-! ===== bestSetting: the class's search from the last threshold down ===== -/
section BC
variable {g : Nat → Nat → Int32} {N R b : Nat} {vd : Nat → Int32} {c0 c1 : Int32}
/-- the class's best so far, from the k-th threshold on -/
def bBest (g : Nat → Nat → Int32) (N R : Nat) (vd : Nat → Int32) (c0 c1 : Int32) (T : Nat → Nat) (st k : Nat) (τ : aSt) : Prop := (k = st ∧ gL τ 26 4 = 9223372036854775807) ∨ (k < st ∧ ∃ i1 j1, k ≤ i1 ∧ i1 ≤ j1 ∧ j1 < st ∧ gL τ 26 4 = wI (PR g N R vd c0 c1 (T i1) (T j1)) ∧ gI τ 26 2 = nI (T i1) ∧ gI τ 26 3 = nI (T j1) ∧ ∀ i j, k ≤ i → i ≤ j → j < st → PR g N R vd c0 c1 (T i1) (T j1) < PR g N R vd c0 c1 (T i) (T j) ∨ (PR g N R vd c0 c1 (T i1) (T j1) = PR g N R vd c0 c1 (T i) (T j) ∧ (i1 < i ∨ (i1 = i ∧ j1 ≤ j))))
theorem s_best41 (hN : N ≤ 120) (hg : cGood g N c0) (r1 : 0 ≤ c1.toInt ∧ c1.toInt ≤ 100000) {e : Nat → Nat} {r : Nat} (hr : r ≤ 120) (hF : ∀ F : Nat → Int, iSum (fun i => F (e i)) r = iSum (fun n => if vd n = -1000000 then 0 else F n) N) {T : Nat → Nat} {st : Nat} (hst : st ≤ 121) : ∀ (f k j0 : Nat) (τ : aSt), k ≤ st → k < f → rtd g N R vd e r τ → gI τ 26 0 = c0 → gI τ 26 1 = c1 → tS T st τ → j0 < st → (k ≤ j0 ∨ (k = st ∧ j0 + 1 = st)) → (∀ j, k ≤ j → j < st → bp g N R vd c0 c1 (T j0) ≤ bp g N R vd c0 c1 (T j) ∧ (bp g N R vd c0 c1 (T j) = bp g N R vd c0 c1 (T j0) → j0 ≤ j)) → bBest g N R vd c0 c1 T st k τ → ∃ τ', f_X5_findBest_41 f (nI (T j0)) (wI (bp g N R vd c0 c1 (T j0))) (nI k - 1) τ = some ((), τ') ∧ Fr (fun a k => a = 26 ∧ (k = 2 ∨ k = 3)) τ τ' ∧ bBest g N R vd c0 c1 T st 0 τ' := by
  intro f
  induction f with
  | zero => intro k j0 τ h1 h2; omega
  | succ f ih =>
    intro k j0 τ h1 h2 ht hc0 hc1 hs hj0 hj1 hmin hbest
    show ∃ τ', f_X5_findBest_41_b (f_X5_findBest_41 f) (nI (T j0)) (wI (bp g N R vd c0 c1 (T j0))) (nI k - 1) τ = _ ∧ _
    unfold f_X5_findBest_41_b
    cases k with
    | zero =>
      rw [if_pos (by decide)]
      exact ⟨τ, rfl, Fr.rf, hbest⟩
    | succ i =>
      obtain ⟨t1, t2⟩ := hs.2.1 i (by omega)
      have el : ∀ l : Nat, f_X5_lookPart (nI l) τ = some (wI (xLP g N R vd c1 (nI l)), τ) := fun l => by
        rw [s_look' (c1 := c1) hr ht hc1 (nI l), hF (fun n => if xS g N R n < nI l then (xLs g vd n).toInt else c1.toInt)]
        rfl
      have eb : ∀ l : Nat, f_X5_blockPart (nI l) τ = some (wI (bp g N R vd c0 c1 l), τ) := fun l => by
        rw [s_block' (c0 := c0) (c1 := c1) hr ht hc0 hc1 hg.1 r1 (nI l), hF (fun n => if xS g N R n < nI l then 0 else if xLs g vd n = 0 then c0.toInt - c1.toInt else -c1.toInt)]
        rfl
      have em : nI i + (-1) = nI i - 1 := (Int32.sub_eq_add_neg ..).symm
      rw [nI_s1, if_neg (nI_neg (by omega)), if_pos (ix_in (by omega) (by omega)), ix_cl (by omega), t1, el, Option.bind_some, eb, Option.bind_some]
      simp only [lc_gt]
      have rb : ∀ l : Nat, -24000000 ≤ bp g N R vd c0 c1 l ∧ bp g N R vd c0 c1 l ≤ 24000000 := fun l => (part_rng (R := R) (vd := vd) hN hg r1 (nI l)).2
      have rl : ∀ l : Nat, -24000000 ≤ xLP g N R vd c1 (nI l) ∧ xLP g N R vd c1 (nI l) ≤ 24000000 := fun l => (part_rng (R := R) (vd := vd) hN hg r1 (nI l)).1
      -- the rest, with the best b from here on
      have rest : ∀ j2, j2 < st → i ≤ j2 → (∀ j, i ≤ j → j < st → bp g N R vd c0 c1 (T j2) ≤ bp g N R vd c0 c1 (T j) ∧ (bp g N R vd c0 c1 (T j) = bp g N R vd c0 c1 (T j2) → j2 ≤ j)) → ∃ τ', f_X5_findBest_84 (f_X5_findBest_41 f) (nI (T j2)) (wI (bp g N R vd c0 c1 (T j2))) (nI i) (nI (T i)) (wI (xLP g N R vd c1 (nI (T i)))) τ = some ((), τ') ∧ Fr (fun a k => a = 26 ∧ (k = 2 ∨ k = 3)) τ τ' ∧ bBest g N R vd c0 c1 T st 0 τ' := by
        intro j2 h3 h4 h5
        unfold f_X5_findBest_84 f_X5_findBest_115
        rw [wI_add, em]
        simp only [lc_gt]
        have epr : ∀ j, xLP g N R vd c1 (nI (T i)) + bp g N R vd c0 c1 (T j) = PR g N R vd c0 c1 (T i) (T j) := fun j => rfl
        rw [epr]
        have rp : ∀ a c, -48000000 ≤ PR g N R vd c0 c1 a c ∧ PR g N R vd c0 c1 a c ≤ 48000000 := fun a c => by
          have := rb c
          have := rl a
          unfold PR
          omega
        have take : (∀ i' j', i + 1 ≤ i' → i' ≤ j' → j' < st → PR g N R vd c0 c1 (T i) (T j2) ≤ PR g N R vd c0 c1 (T i') (T j')) → ∃ τ', f_X5_findBest_41 f (nI (T j2)) (wI (bp g N R vd c0 c1 (T j2))) (nI i - 1) (sI (sI (sL τ 26 4 (wI (PR g N R vd c0 c1 (T i) (T j2)))) 26 2 (nI (T i))) 26 3 (nI (T j2))) = some ((), τ') ∧ Fr (fun a k => a = 26 ∧ (k = 2 ∨ k = 3)) τ τ' ∧ bBest g N R vd c0 c1 T st 0 τ' := by
          intro hle
          generalize hτ : sI (sI (sL τ 26 4 (wI (PR g N R vd c0 c1 (T i) (T j2)))) 26 2 (nI (T i))) 26 3 (nI (T j2)) = τ1
          have f1 : Fr (fun a k => a = 26 ∧ (k = 2 ∨ k = 3)) τ τ1 := by
            rw [← hτ]
            exact Fr.sI (Fr.sI (Fr.sL Fr.rf) ⟨rfl, Or.inl rfl⟩) ⟨rfl, Or.inr rfl⟩
          obtain ⟨τ2, k1, k2, k3⟩ := ih i j2 τ1 (by omega) (by omega) ⟨by rw [f1.2.1 26 9 (by omega)]; exact ht.1, fun q hq => by rw [f1.2.1 27 q (by omega), f1.2.1 28 q (by omega)]; exact ht.2 q hq⟩ (by rw [f1.2.1 26 0 (by omega)]; exact hc0) (by rw [f1.2.1 26 1 (by omega)]; exact hc1) ⟨by rw [f1.2.1 26 11 (by omega)]; exact hs.1, fun q hq => by rw [f1.2.1 29 q (by omega)]; exact hs.2.1 q hq, hs.2.2⟩ h3 (Or.inl h4) h5 (Or.inr ⟨by omega, i, j2, Nat.le_refl _, h4, h3, by
            rw [← hτ]
            show gL (sL τ 26 4 (wI (PR g N R vd c0 c1 (T i) (T j2)))) 26 4 = _
            rw [gLs], by rw [← hτ, gI_other (Or.inr (by omega)), gI_same], by rw [← hτ, gI_same], fun i' j' q1 q2 q3 => by
            by_cases ei : i' = i
            · subst ei
              have := h5 j' q2 q3
              unfold PR
              omega
            · have := hle i' j' (by omega) q2 q3
              omega⟩)
          exact ⟨τ2, k1, f1.tr k2, k3⟩
        rcases hbest with ⟨e1, e2⟩ | ⟨e1, i1, j1, b1, b2, b3, b4, b5, b6, b7⟩
        · rw [e2, if_neg (show ¬ (9223372036854775807 : Int64) < wI (PR g N R vd c0 c1 (T i) (T j2)) from fun q => by
            have := rp (T i) (T j2)
            rw [pl_lt, wI_toInt (by omega) (by omega), show (9223372036854775807 : Int64).toInt = 9223372036854775807 from rfl] at q
            omega)]
          exact take (fun i' j' q1 q2 q3 => by omega)
        · have rp1 := rp (T i) (T j2)
          have rp2 := rp (T i1) (T j1)
          rw [b4]
          by_cases d : PR g N R vd c0 c1 (T i1) (T j1) < PR g N R vd c0 c1 (T i) (T j2)
          · rw [if_pos ((wI_lt (by omega) (by omega) (by omega) (by omega)).mpr d)]
            exact ih i j2 τ (by omega) (by omega) ht hc0 hc1 hs h3 (Or.inl h4) h5 (Or.inr ⟨by omega, i1, j1, by omega, b2, b3, b4, b5, b6, fun i' j' q1 q2 q3 => by
              by_cases ei : i' = i
              · subst ei
                have := h5 j' q2 q3
                unfold PR at d ⊢
                omega
              · exact b7 i' j' (by omega) q2 q3⟩)
          · rw [if_neg (fun q => d ((wI_lt (by omega) (by omega) (by omega) (by omega)).mp q))]
            exact take (fun i' j' q1 q2 q3 => by
              have := b7 i' j' q1 q2 q3
              omega)
      have rb1 := rb (T i)
      have rb2 := rb (T j0)
      by_cases c : bp g N R vd c0 c1 (T j0) < bp g N R vd c0 c1 (T i)
      · rw [if_pos ((wI_lt (by omega) (by omega) (by omega) (by omega)).mpr c)]
        have hne : j0 ≠ i := fun z => by rw [z] at c; omega
        exact rest j0 hj0 (by omega) (fun j q1 q2 => by
          by_cases ej : j = i
          · rw [ej]; omega
          · exact hmin j (by omega) q2)
      · rw [if_neg (fun q => c ((wI_lt (by omega) (by omega) (by omega) (by omega)).mp q))]
        exact rest i (by omega) (Nat.le_refl _) (fun j q1 q2 => by
          by_cases ej : j = i
          · rw [ej]; omega
          · have := hmin j (by omega) q2
            omega)
/-- the class's search finds the best -/
theorem s_findBest (hw : gW g N R) (hg : cGood g N c0) (r1 : 0 ≤ c1.toInt ∧ c1.toInt ≤ 100000) {τ : aSt} (h : cK g N R b τ) (hv : ∀ n, n < N → gI τ (84 + n) 7 = vd n) (hc0 : gI τ 26 0 = c0) (hc1 : gI τ 26 1 = c1) : ∃ τ' l m, f_X5_findBest τ = some ((), τ') ∧ Fr (fun a k => cSl a k ∨ a = 27 ∨ a = 28 ∨ a = 29 ∨ (a = 26 ∧ 2 ≤ k)) τ τ' ∧ cK g N R b τ' ∧ isB g N R vd c0 c1 l m ∧ gL τ' 26 4 = wI (PR g N R vd c0 c1 l m) ∧ gI τ' 26 2 = nI l ∧ gI τ' 26 3 = nI m := by
  have hN := hw.hN
  obtain ⟨τ1, e, r, a1, a2, a3, a4, a5, a6, a7⟩ := s_rate (vd := vd) hw h hv
  unfold f_X5_findBest f_X5_findThresholds
  rw [a1, Option.bind_some]
  generalize hτ2 : sI (sI τ1 29 0 0) 26 11 1 = τ2
  have f12 : Fr (fun a k => a = 29 ∨ (a = 26 ∧ k = 11)) τ1 τ2 := by
    rw [← hτ2]
    exact Fr.sI (Fr.sI Fr.rf (Or.inl rfl)) (Or.inr ⟨rfl, rfl⟩)
  have ht2 : rtd g N R vd e r τ2 := ⟨by rw [f12.2.1 26 9 (by omega)]; exact a5.1, fun i hi => by rw [f12.2.1 27 i (by omega), f12.2.1 28 i (by omega)]; exact a5.2 i hi⟩
  obtain ⟨τ3, T, st, b1, b2, bL, b3, b4, b5, b6⟩ := s_thrL (vd := vd) hw (show r ≤ 120 by omega) aN 0 τ2 (fun _ => 0) 1 (by omega) (by show r < 0 + 1000000; omega) ht2 ⟨by rw [← hτ2, gI_same]; rfl, fun i hi => ⟨by
    rw [show i = 0 by omega, ← hτ2, gI_other (Or.inl (by omega)), gI_same]; rfl, Nat.zero_le _⟩, fun i j _ _ => by omega⟩ (by omega) (by omega) (fun y => ⟨fun ⟨i, hi, q⟩ => Or.inl q.symm, fun q => by
    rcases q with q | ⟨i, hi, -⟩
    · exact ⟨0, by omega, q.symm⟩
    · exact absurd hi (Nat.not_lt_zero _)⟩)
  rw [show f_X5_findThresholds_14 aN 0 τ2 = _ from b1, Option.bind_some]
  have f13 : Fr (fun a k => a = 29 ∨ (a = 26 ∧ k = 11)) τ1 τ3 := f12.tr b2
  have ht3 : rtd g N R vd e r τ3 := ⟨by rw [f13.2.1 26 9 (by omega)]; exact a5.1, fun i hi => by rw [f13.2.1 27 i (by omega), f13.2.1 28 i (by omega)]; exact a5.2 i hi⟩
  have c03 : gI τ3 26 0 = c0 := by rw [f13.2.1 26 0 (by omega), a2.2.1 26 0 (by unfold cRt cSl; omega)]; exact hc0
  have c13 : gI τ3 26 1 = c1 := by rw [f13.2.1 26 1 (by omega), a2.2.1 26 1 (by unfold cRt cSl; omega)]; exact hc1
  obtain ⟨s, rfl⟩ : ∃ s, st = s + 1 := ⟨st - 1, by omega⟩
  have tlast := (b3.2.1 s (by omega)).1
  rw [b3.1, nI_s1, if_pos (ix_in (by omega) (by omega)), ix_cl (by omega), tlast]
  have eb : f_X5_blockPart (nI (T s)) τ3 = some (wI (bp g N R vd c0 c1 (T s)), τ3) := by
    rw [s_block' (c0 := c0) (c1 := c1) (show r ≤ 120 by omega) ht3 c03 c13 hg.1 r1 (nI (T s)), a6 (fun n => if xS g N R n < nI (T s) then 0 else if xLs g vd n = 0 then c0.toInt - c1.toInt else -c1.toInt)]
    rfl
  rw [eb, Option.bind_some]
  have e11 : gI (sL τ3 26 4 9223372036854775807) 26 11 = nI (s + 1) := b3.1
  rw [e11]
  obtain ⟨τ4, d1, d2, d3⟩ := s_best41 (R := R) (vd := vd) (c1 := c1) hN hg r1 (show r ≤ 120 by omega) a6 (T := T) (st := s + 1) b5 aN (s + 1) s (sL τ3 26 4 9223372036854775807) (Nat.le_refl _) (by show s + 1 < 1000000; omega) ht3 c03 c13 b3 (by omega) (Or.inr ⟨rfl, rfl⟩) (fun j q1 q2 => by omega) (Or.inl ⟨rfl, gLs _ _ _ _⟩)
  rcases d3 with ⟨z, -⟩ | ⟨-, i1, j1, -, q2, q3, q4, q5, q6, q7⟩
  · omega
  have f14 : Fr (fun a k => a = 29 ∨ (a = 26 ∧ 2 ≤ k)) τ1 τ4 := (f13.mono (fun a k q => by omega)).tr ((Fr.sL Fr.rf).tr (d2.mono (fun a k q => by omega)))
  have memT : ∀ x, (∃ i, i < s + 1 ∧ T i = x) ↔ TT g N R vd x := fun x => by
    rw [b6 x]
    unfold TT
    constructor
    · rintro (q | ⟨i, hi, q⟩)
      · exact Or.inl q
      · obtain ⟨u1, u2, -⟩ := a5.2 i hi
        exact Or.inr ⟨e i, u1, u2, q⟩
    · rintro (q | ⟨n, hn, hvn, q⟩)
      · exact Or.inl q
      · obtain ⟨i, hi, ei⟩ := a7 n hn hvn
        exact Or.inr ⟨i, hi, by rw [ei]; exact q⟩
  have mono : ∀ i j, i < s + 1 → j < s + 1 → T i ≤ T j → i ≤ j := fun i j hi hj hij => by
    refine Classical.byContradiction (fun hn => ?_)
    have := b3.2.2 j i (by omega) hi
    omega
  have mono2 : ∀ i j, i ≤ j → j < s + 1 → T i ≤ T j := fun i j hij hj => by
    by_cases e : i = j
    · rw [e]; exact Nat.le_refl _
    · have := b3.2.2 i j (by omega) hj
      omega
  refine ⟨τ4, T i1, T j1, d1, ?_, ?_, ⟨(memT _).mp ⟨i1, by omega, rfl⟩, (memT _).mp ⟨j1, q3, rfl⟩, mono2 i1 j1 q2 q3, fun l' m' hl hm hlm => ?_⟩, q4, q5, q6⟩
  · refine (a2.mono (fun a k q => ?_)).tr (f14.mono (fun a k q => ?_))
    · unfold cRt at q
      rcases q with q | q | q | q
      · exact Or.inl q
      · exact Or.inr (Or.inl q)
      · exact Or.inr (Or.inr (Or.inl q))
      · exact Or.inr (Or.inr (Or.inr (Or.inr ⟨q.1, by omega⟩)))
    · rcases q with q | q
      · exact Or.inr (Or.inr (Or.inr (Or.inl q)))
      · exact Or.inr (Or.inr (Or.inr (Or.inr q)))
  · exact ⟨a3.1.fr f14 (fun a k q => cC_row a3.1.hb (by omega)), a3.2.fr f14 (fun a k q => by omega)⟩
  · obtain ⟨i, hi, rfl⟩ := (memT l').mpr hl
    obtain ⟨j, hj, rfl⟩ := (memT m').mpr hm
    have hij := mono i j hi hj hlm
    unfold lx
    rcases q7 i j (Nat.zero_le _) hij hj with w | ⟨w1, w2 | ⟨w2, w3⟩⟩
    · exact Or.inl w
    · refine Or.inr ⟨w1, Or.inl (b3.2.2 i1 i w2 hi)⟩
    · subst w2
      exact Or.inr ⟨w1, Or.inr ⟨rfl, mono2 j1 j w3 hj⟩⟩
end BC
