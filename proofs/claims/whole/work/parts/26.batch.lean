/-! ===== batch ===== -/
theorem bind_id {ρ : Type} (x : Option (ρ × aSt)) : x.bind (fun q => some (q.1, q.2)) = x := by cases x <;> rfl
theorem nI_k (p k : Nat) (c : Int32) (h : c = nI k) : nI p + c = nI (p + k) := by rw [h, nI_add]
theorem s_admFrom {σ : aSt} {s p : Nat} {it : Nat → Int32} (hs : s < 8) (hg : 84 ≤ gN σ) (hp : p + 6 ≤ 120) (hi : ∀ j, j < 120 → gI σ (42 + 2 * s) j = it j) : f_X11_admitFrom (41 + 2 * s + 1) (nI p) σ = f_X11_admit (it p) (it (p + 1)) (it (p + 2)) (it (p + 3)) (it (p + 4)) (it (p + 5)) σ := by
  obtain ⟨a1, a2, a3⟩ := sh_ok s hs
  have e : ∀ j, j < 120 → gI σ (41 + 2 * s + 1) j = it j := fun j hj => by rw [show 41 + 2 * s + 1 = 42 + 2 * s by omega]; exact hi j hj
  unfold f_X11_admitFrom
  have w : 0 ≤ nI p ∧ nI p ≤ Int32.ofNat (aLn (41 + 2 * s + 1)) - 6 := by
    rw [a3, show (Int32.ofNat 120 - 6 : Int32) = nI 114 from rfl]
    exact ⟨nI_ge0 (by omega), by rw [nI_leI (by omega) (by omega)]; omega⟩
  rw [if_pos ⟨a2, by omega⟩, s_within]
  simp only [Option.bind_some, bI_0, decide_eq_false_iff_not]
  rw [if_neg (not_not_intro w), if_pos ⟨a2, by omega⟩, a3, nI_k p 1 1 rfl, nI_k p 2 2 rfl, nI_k p 3 3 rfl, nI_k p 4 4 rfl, nI_k p 5 5 rfl, if_pos (ix_in (by omega) (by omega)), if_pos (ix_in (by omega) (by omega)), if_pos (ix_in (by omega) (by omega)), if_pos (ix_in (by omega) (by omega)), if_pos (ix_in (by omega) (by omega)), if_pos (ix_in (by omega) (by omega)), if_pos (by omega), ix_cl (by omega), ix_cl (by omega), ix_cl (by omega), ix_cl (by omega), ix_cl (by omega), ix_cl (by omega), bind_id, e _ (by omega), e _ (by omega), e _ (by omega), e _ (by omega), e _ (by omega), e _ (by omega)]
theorem bLoop {s i n : Nat} (hs : s < 8) (hn : n ≤ 20) (hi : i + 6 * n ≤ 120) (it : Nat → Int32) : ∀ (d k N : Nat) (g : Nat → Nat → Int32) (o : Nat → Nat) (came : Int32), k + d = n → dW N g o → ∃ r N' g' o', dW N' g' o' ∧ N ≤ N' ∧ (∀ σ f, d < f → pC σ N g o → (∀ j, j < 120 → gI σ (42 + 2 * s) j = it j) → ∃ σ1, f_X11_batch_67 f k (8 * k) (nI i) (nI n) (41 + 2 * s) came (nI k) σ = some (r, sI σ1 0 10 0) ∧ pC σ1 N' g' o' ∧ Fx cA σ σ1 ∧ ((σ1 = σ ∧ N' = N ∧ g' = g ∧ o' = o) ∨ (N < N' ∧ ∀ j, j < 240 → gI σ1 23 j = -1))) ∧ (∀ τ f, d < f → pM τ N g o → (∀ j, j < 120 → gI τ 60 (120 * s + j) = it j) → ∃ τ1, f_X12_batch_82 f (nI s) (nI i) (nI n) came (nI k) τ = some (r, τ1) ∧ pM τ1 N' g' o' ∧ Fr cM τ τ1 ∧ (N' = N → τ1 = τ)) := by
  intro d
  induction d with
  | zero =>
    intro k N g o came hk hd
    have hkn : k = n := by omega
    subst hkn
    refine ⟨came, N, g, o, hd, Nat.le_refl _, fun σ f hf hc _ => ?_, fun τ f hf hm _ => ?_⟩
    · obtain ⟨f, rfl⟩ : ∃ f', f = f' + 1 := ⟨f - 1, by omega⟩
      refine ⟨σ, ?_, hc, Fx.rf, Or.inl ⟨rfl, rfl, rfl, rfl⟩⟩
      show f_X11_batch_67_b (f_X11_batch_67 f) k (8 * k) (nI i) (nI k) (41 + 2 * s) came (nI k) σ = _
      unfold f_X11_batch_67_b
      rw [if_pos (by omega), if_pos (Int32.le_refl _)]
      rfl
    · obtain ⟨f, rfl⟩ : ∃ f', f = f' + 1 := ⟨f - 1, by omega⟩
      refine ⟨τ, ?_, hm, Fr.rf, fun _ => rfl⟩
      show f_X12_batch_82_b (f_X12_batch_82 f) (nI s) (nI i) (nI k) came (nI k) τ = _
      unfold f_X12_batch_82_b
      rw [if_pos (Int32.le_refl _)]
  | succ d ih =>
    intro k N g o came hk hd
    obtain ⟨r0, N0, g0, o0, hd0, hN0, kx, km⟩ := both hd (it (i + 6 * k)) (it (i + 6 * k + 1)) (it (i + 6 * k + 2)) (it (i + 6 * k + 3)) (it (i + 6 * k + 4)) (it (i + 6 * k + 5))
    obtain ⟨r, N', g', o', hd', hN', jx, jm⟩ := ih (k + 1) N0 g0 o0 (if r0 < 0 then came else came + 1) (by omega) hd0
    have nle : ¬ nI n ≤ nI k := fun q => by rw [nI_leI (by omega) (by omega)] at q; omega
    refine ⟨r, N', g', o', hd', by omega, fun σ f hf hc hit => ?_, fun τ f hf hm hit => ?_⟩
    · obtain ⟨f, rfl⟩ : ∃ f', f = f' + 1 := ⟨f - 1, by omega⟩
      obtain ⟨σ1, a1, a2, a3, a4⟩ := kx σ hc
      obtain ⟨σ2, b1, b2, b3, b4⟩ := jx σ1 f (by omega) a2 (fun j hj => by rw [a3.1 _ _ (by unfold cA; omega)]; exact hit j hj)
      refine ⟨σ2, ?_, b2, a3.tr b3, ?_⟩
      · show f_X11_batch_67_b (f_X11_batch_67 f) k (8 * k) (nI i) (nI n) (41 + 2 * s) came (nI k) σ = _
        unfold f_X11_batch_67_b
        have hg : gN σ = 84 + N := hc.1
        rw [if_pos (by omega), if_neg nle, if_pos ⟨(sh_ok s hs).1, by omega⟩, if_pos (by omega), show (nI i + nI k * 6 : Int32) = nI (i + 6 * k) by rw [show (6 : Int32) = nI 6 from rfl, pk_mul, nI_add, Nat.mul_comm], s_admFrom hs (by omega) (by omega) hit, a1]
        simp only [Option.bind_some]
        unfold f_X11_batch_95
        rw [show 8 * k + 8 = 8 * (k + 1) by omega, nI_1]
        by_cases c : r0 < 0
        · rw [if_pos c] at b1 ⊢
          rw [if_pos (by omega)]
          exact b1
        · rw [if_neg c] at b1 ⊢
          rw [if_pos (by omega)]
          exact b1
      · rcases a4 with ⟨q1, q2, q3, q4⟩ | ⟨q1, q2⟩
        · rcases b4 with ⟨w1, w2, w3, w4⟩ | ⟨w1, w2⟩
          · exact Or.inl ⟨w1.trans q1, w2.trans q2, w3.trans q3, w4.trans q4⟩
          · exact Or.inr ⟨by omega, w2⟩
        · rcases b4 with ⟨w1, w2, w3, w4⟩ | ⟨w1, w2⟩
          · exact Or.inr ⟨by omega, fun j hj => by rw [w1]; exact q2 j hj⟩
          · exact Or.inr ⟨by omega, w2⟩
    · obtain ⟨f, rfl⟩ : ∃ f', f = f' + 1 := ⟨f - 1, by omega⟩
      obtain ⟨τ1, a1, a2, a3, a4⟩ := km τ hm
      obtain ⟨τ2, b1, b2, b3, b4⟩ := jm τ1 f (by omega) a2 (fun j hj => by rw [a3.2.1 _ _ (by unfold cM; omega)]; exact hit j hj)
      refine ⟨τ2, ?_, b2, a3.tr b3, fun z => ?_⟩
      · show f_X12_batch_82_b (f_X12_batch_82 f) (nI s) (nI i) (nI n) came (nI k) τ = _
        unfold f_X12_batch_82_b f_X12_batch_168
        have e : ((120 : Int32) * nI s + nI i) + 6 * nI k = nI (120 * s + (i + 6 * k)) := by
          rw [i120, show (6 : Int32) = nI 6 from rfl, pk_mul, nI_add, Nat.add_assoc]
        rw [if_neg nle, e, nI_k _ 1 1 rfl, nI_k _ 2 2 rfl, nI_k _ 3 3 rfl, nI_k _ 4 4 rfl, nI_k _ 5 5 rfl, if_pos (ix_in (by omega) (by omega)), if_pos (ix_in (by omega) (by omega)), if_pos (ix_in (by omega) (by omega)), if_pos (ix_in (by omega) (by omega)), if_pos (ix_in (by omega) (by omega)), if_pos (ix_in (by omega) (by omega)), ix_cl (by omega), ix_cl (by omega), ix_cl (by omega), ix_cl (by omega), ix_cl (by omega), ix_cl (by omega)]
        simp only [Nat.add_assoc]
        rw [hit _ (by omega), hit _ (by omega), hit _ (by omega), hit _ (by omega), hit _ (by omega), hit _ (by omega)]
        simp only [Nat.add_assoc] at a1
        rw [a1]
        simp only [Option.bind_some]
        rw [nI_1]
        by_cases c : r0 < 0
        · rw [if_pos c] at b1 ⊢
          rw [Int32.add_zero]
          exact b1
        · rw [if_neg c] at b1 ⊢
          exact b1
      · have z0 : N0 = N := by omega
        rw [b4 (by omega), a4 z0]
theorem op_batch {σ : aSt} (h : Inv σ) (p1 p2 p3 : Int32) : Op (f_X11_batch p1 p2 p3) (f_X12_batch p1 p2 p3) σ := by
  by_cases c1 : 0 ≤ p1 ∧ p1 ≤ 7
  case neg =>
    refine ⟨-1000001, σ, sI σ 57 0 0, ?_, ?_, h.thr 0⟩
    · unfold f_X11_batch f_X11_batch_17
      rw [s_isSheet]
      simp only [Option.bind_some, bI_0, decide_eq_false_iff_not]
      rw [if_pos c1, if_pos (by omega)]
    · unfold f_X12_batch f_X12_batch_24
      rw [s_isSheetM]
      simp only [Option.bind_some, bI_0, decide_eq_false_iff_not]
      rw [if_pos c1]
  by_cases c2 : 1 ≤ p3 ∧ p3 ≤ 20
  case neg =>
    refine ⟨-1000001, σ, sI σ 57 0 0, ?_, ?_, h.thr 0⟩
    · unfold f_X11_batch f_X11_batch_17
      rw [s_isSheet]
      simp only [Option.bind_some, bI_0, decide_eq_false_iff_not]
      rw [if_neg (not_not_intro c1), s_within]
      simp only [Option.bind_some, bI_0, decide_eq_false_iff_not]
      rw [if_pos c2, if_pos (by omega)]
    · unfold f_X12_batch f_X12_batch_24
      rw [s_isSheetM]
      simp only [Option.bind_some, bI_0, decide_eq_false_iff_not]
      rw [if_neg (not_not_intro c1), s_in 1 20 1 20 rfl rfl]
      simp only [Option.bind_some, bI_0, decide_eq_false_iff_not]
      rw [if_pos c2]
  have c1' := c1
  have c2' := c2
  obtain ⟨s, hs, rfl⟩ := ix_rng (N := 8) rfl rfl c1'.1 c1'.2
  obtain ⟨n, ⟨hn1, hn2⟩, rfl⟩ : ∃ n, (1 ≤ n ∧ n ≤ 20) ∧ p3 = nI n := by
    have q := c2
    rw [pi_le, pi_le] at q
    have z1 : (1 : Int32).toInt = 1 := rfl
    have z2 : (20 : Int32).toInt = 20 := rfl
    exact ⟨p3.toInt.toNat, by omega, pi_of (by omega)⟩
  have hg := h.gn
  have hb : inB (nI s) 8 := ix_in hs (by omega)
  have cl : (nI s).toNatClampNeg = s := ix_cl (by omega)
  have e6 : (nI n * 6 : Int32) = nI (6 * n) := by rw [show (6 : Int32) = nI 6 from rfl, pk_mul, Nat.mul_comm]
  have e6' : (6 * nI n : Int32) = nI (6 * n) := by rw [show (6 : Int32) = nI 6 from rfl, pk_mul]
  have xs : f_X11_batch (nI s) p2 (nI n) σ = if gI σ (41 + 2 * s) 1 = 0 then some (-1000011, sI σ 0 10 1) else (f_X9_has (41 + 2 * s) p2 (nI (6 * n)) σ).bind (fun q10 => (if q10.1 = 0 then some (-1000012, sI q10.2 0 10 2) else f_X11_batch_67 aN 0 0 p2 (nI n) (41 + 2 * s) 0 0 q10.2)) := by
    unfold f_X11_batch
    rw [s_isSheet]
    simp only [Option.bind_some, bI_0, decide_eq_false_iff_not]
    rw [if_neg (not_not_intro c1), s_within]
    simp only [Option.bind_some, bI_0, decide_eq_false_iff_not]
    have ok : aSh (41 + 2 * s) = 9 ∧ 41 + 2 * s < gN σ := ⟨(sh_ok s hs).1, by omega⟩
    rw [if_neg (not_not_intro c2), if_pos hb, cl, if_pos ok, if_pos ok, e6]
    rfl
  have ms : ∀ τ : aSt, f_X12_batch (nI s) p2 (nI n) τ = if 0 ≤ gI τ 58 s then (if p2 < 0 then some (-1000012, sI (sI (sI τ 57 0 0) 57 1 0) 57 1 2) else if lg_cmp (p2.toInt64 + (nI (6 * n)).toInt64) (gI τ 59 s).toInt64 ≤ 0 then f_X12_batch_82 aN (nI s) p2 (nI n) 0 0 (sI (sI τ 57 0 0) 57 1 0) else some (-1000012, sI (sI (sI τ 57 0 0) 57 1 0) 57 1 2)) else some (-1000011, sI (sI (sI τ 57 0 0) 57 1 0) 57 1 1) := by
    intro τ
    unfold f_X12_batch
    rw [s_isSheetM]
    simp only [Option.bind_some, bI_0, decide_eq_false_iff_not]
    rw [if_neg (not_not_intro c1), s_in 1 20 1 20 rfl rfl]
    simp only [Option.bind_some, bI_0, decide_eq_false_iff_not]
    rw [if_neg (not_not_intro c2), if_pos hb, if_pos hb, cl, gI_other (Or.inl (by omega)), gI_other (Or.inl (by omega)), gI_other (Or.inl (by omega)), gI_other (Or.inl (by omega)), e6']
    rfl
  rcases h.1 s hs with ⟨q1, q2⟩ | ⟨q1, l, m, hl, hm, q2, q3, q4, q5, q6⟩
  · refine ⟨-1000011, sI σ 0 10 1, _, by rw [xs, if_pos q1], ?_, h.find 1⟩
    rw [ms, gI_other (Or.inl (by omega)), q2, if_neg (by decide)]
  · have hx : gI σ 58 s = nI l := q2
    have x0 : ¬ gI σ (41 + 2 * s) 1 = 0 := by rw [q1]; decide
    have m0 : 0 ≤ nI l := nI_ge0 (by omega)
    rw [if_neg x0, s_has hs _ _ hg hm q5] at xs
    simp only [Option.bind_some, bI_0, decide_eq_false_iff_not] at xs
    have en : (nI (6 * n)).toInt = 6 * n := pi_nI (by omega)
    have hcmp : (lg_cmp (p2.toInt64 + (nI (6 * n)).toInt64) (nI m).toInt64 ≤ 0) = (p2.toInt + 6 * n ≤ m) := by
      rw [lc_le, pl_le, Int64.toInt_add, pi_wide, pi_wide, pi_wide, en, pi_nI (by omega)]
      have := pi_rng p2
      rw [Int.bmod_eq_of_le (by omega) (by omega)]
    by_cases hc : 0 ≤ p2.toInt ∧ p2.toInt + 6 * n ≤ m
    · have hc3 : 0 ≤ (nI (6 * n)).toInt ∧ 0 ≤ p2.toInt ∧ p2.toInt + (nI (6 * n)).toInt ≤ m := by rw [en]; omega
      rw [if_neg (not_not_intro hc3)] at xs
      obtain ⟨i, hi, rfl⟩ : ∃ i, i + 6 * n ≤ m ∧ p2 = nI i := ⟨p2.toInt.toNat, by omega, pi_of hc.1⟩
      obtain ⟨N, hp⟩ := h.pay
      obtain ⟨hd, hcC, hmM⟩ := hp.split
      obtain ⟨r, N', g', o', hd', hN', jx, jm⟩ := bLoop hs hn2 (by omega : i + 6 * n ≤ 120) (gI σ (42 + 2 * s)) n 0 N (gI σ) (ord σ) 0 (by omega) hd
      obtain ⟨σ1, a1, a2, a3, a4⟩ := jx σ aN (by show n < 1000000; omega) hcC (fun j hj => rfl)
      have tv : ∀ a k, ¬ cA a k → (a ≠ 0 ∨ k ≠ 10) → (a ≠ 57 ∨ (k ≠ 0 ∧ k ≠ 1)) → gI (sI (sI (sI σ1 0 10 0) 57 0 0) 57 1 0) a k = gI σ a k := fun a k w1 w2 w3 => by
        rw [gI_other (by omega), gI_other (by omega), gI_other w2, a3.1 a k w1]
      obtain ⟨σ2, b1, b2, b3, b4⟩ := jm (sI (sI (sI σ1 0 10 0) 57 0 0) 57 1 0) aN (by show n < 1000000; omega) (hmM.fr (fun a k q => tv a k (by unfold cM at q; unfold cA; omega) (by unfold cM at q; omega) (by unfold cM at q; omega))) (fun j hj => by rw [tv 60 _ (by unfold cA; omega) (by omega) (by omega), q6 j hj])
      refine ⟨r, sI σ1 0 10 0, σ2, by rw [xs]; exact a1, ?_, ?_⟩
      · rw [ms, gI_other (Or.inl (by omega)), a3.1 58 s (by unfold cA; omega), hx, if_pos m0, if_neg (nI_neg (by omega)), gI_other (Or.inl (by omega)), a3.1 59 s (by unfold cA; omega), q4, if_pos (by rw [hcmp]; exact hc.2)]
        exact b1
      · have cz : ∀ a k, cA a k → ¬ cM a k ∧ (a ≠ 57 ∨ k ≠ 0) ∧ (a ≠ 57 ∨ k ≠ 1) ∧ (a ≠ 0 ∨ k ≠ 10) := fun a k q => by unfold cA at q; unfold cM; omega
        rcases a4 with ⟨w1, w2, w3, w4⟩ | ⟨w1, w2⟩
        · rw [b4 w2, w1]
          have := h.find 0
          have same : sI (sI (sI (sI σ 0 10 0) 57 0 0) 57 1 0) 57 1 0 = sI (sI (sI σ 0 10 0) 57 0 0) 57 1 0 := by
            have hrow : gI (sI (sI (sI (sI σ 0 10 0) 57 0 0) 57 1 0) 57 1 0) = gI (sI (sI (sI σ 0 10 0) 57 0 0) 57 1 0) := by
              funext a k
              by_cases ha : a = 57 ∧ k = 1
              · obtain ⟨rfl, rfl⟩ := ha
                rw [gI_same, gI_same]
              · exact gI_other (by omega)
            show ((gI (sI (sI (sI (sI σ 0 10 0) 57 0 0) 57 1 0) 57 1 0), σ.2) : aSt) = (gI (sI (sI (sI σ 0 10 0) 57 0 0) 57 1 0), σ.2)
            rw [hrow]
          rw [same] at this
          exact this
        · have F0 : Fx cPB σ (sI (sI (sI σ1 0 10 0) 57 0 0) 57 1 0) := (a3.mono (fun a k q => Or.inl q)).tr ((((Fr.sI Fr.rf (C := cPB) (a := 0) (k := 10) (v := 0) (by simp [cPB])).sI (a := 57) (k := 0) (v := 0) (by simp [cPB])).sI (a := 57) (k := 1) (v := 0) (by simp [cPB])).fx)
          have F : Fx cPB σ σ2 := F0.tr (b3.fx.mono (fun a k q => Or.inr (Or.inl q)))
          refine h.came F hd' (a2.fr b3.1 (fun a k q => ?_) (fun a k q => ?_)) b2 (fun j hj => ?_) ?_
          · rw [b3.2.1 a k (cz a k q).1, gI_other (cz a k q).2.2.1, gI_other (cz a k q).2.1, gI_other (cz a k q).2.2.2]
          · rw [b3.2.2 a k (cz a k q).1]
            rfl
          · rw [b3.2.1 23 j (by unfold cM; omega), gI_other (Or.inl (by omega)), gI_other (Or.inl (by omega)), gI_other (Or.inl (by omega))]
            exact w2 j hj
          · rw [b3.2.1 0 10 (by unfold cM; omega), gI_other (Or.inl (by omega)), gI_other (Or.inl (by omega)), gI_same, b3.2.1 57 1 (by unfold cM; omega), gI_same]
    · have hc3 : ¬ (0 ≤ (nI (6 * n)).toInt ∧ 0 ≤ p2.toInt ∧ p2.toInt + (nI (6 * n)).toInt ≤ m) := by rw [en]; omega
      rw [if_pos hc3] at xs
      refine ⟨-1000012, sI σ 0 10 2, _, xs, ?_, h.find 2⟩
      rw [ms, gI_other (Or.inl (by omega)), hx, if_pos m0, gI_other (Or.inl (by omega)), q4]
      by_cases d : p2 < 0
      · rw [if_pos d]
      · rw [if_neg d, if_neg]
        rw [hcmp]
        rw [pi_lt] at d
        have : (0 : Int32).toInt = 0 := rfl
        omega
