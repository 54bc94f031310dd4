/-! ===== pay, batch ===== -/
/-- what one offer does to the payments, on both sides -/
theorem both {N : Nat} {g : Nat → Nat → Int32} {o : Nat → Nat} (hd : dW N g o) (p1 p2 p3 p4 p5 p6 : Int32) : ∃ r N' g' o', dW N' g' o' ∧ N ≤ N' ∧ (∀ σ, pC σ N g o → ∃ σ1, f_X11_admit p1 p2 p3 p4 p5 p6 σ = some (r, σ1) ∧ pC σ1 N' g' o' ∧ Fx cA σ σ1 ∧ ((σ1 = σ ∧ N' = N ∧ g' = g ∧ o' = o) ∨ (N' = N + 1 ∧ ∀ j, j < 240 → gI σ1 23 j = -1))) ∧ (∀ τ, pM τ N g o → ∃ τ1, f_X12_coming p1 p2 p3 p4 p5 p6 τ = some (r, τ1) ∧ pM τ1 N' g' o' ∧ Fr cM τ τ1 ∧ (N' = N → τ1 = τ)) := by
  by_cases hv : vld p1 p2 p3 p4 p5 p6
  · obtain ⟨t1, k1, rfl⟩ := ix_rng (N := 1000) rfl rfl hv.1.1 hv.1.2
    by_cases hf : ∀ n, n < N → g 61 n ≠ nI t1
    · by_cases hN : N < 120
      · obtain ⟨t2, k2, e2⟩ := ix_rng (N := 100001) rfl rfl hv.2.1.1 hv.2.1.2
        obtain ⟨t3, k3, e3⟩ := ix_rng (N := 20) rfl rfl hv.2.2.1.1 hv.2.2.1.2
        obtain ⟨t4, k4, e4⟩ := ix_rng (N := 20) rfl rfl hv.2.2.2.1.1 hv.2.2.2.1.2
        obtain ⟨t5, k5, e5⟩ : ∃ t, (1 ≤ t ∧ t ≤ 100000) ∧ p5 = nI t := by
          have q := hv.2.2.2.2.2.1
          rw [pi_le, pi_le] at q
          have z1 : (1 : Int32).toInt = 1 := rfl
          have z2 : (100000 : Int32).toInt = 100000 := rfl
          exact ⟨p5.toInt.toNat, by omega, pi_of (by omega)⟩
        obtain ⟨t6, k6, e6⟩ := ix_rng (N := 4) rfl rfl hv.2.2.2.2.2.2.1 hv.2.2.2.2.2.2.2
        have hd' := hd.add hN k1 (by omega : t2 ≤ 100000) k3 k4 k5 k6 hf
        rw [← e2, ← e3, ← e4, ← e5, ← e6] at hd'
        refine ⟨nI N, N + 1, _, _, hd', Nat.le_succ _, fun σ hc => ?_, fun τ hm => ?_⟩
        · obtain ⟨σ1, q1, q2, q3, q4⟩ := s_admNew hd hc hN k1 hv hf
          exact ⟨σ1, q1, q2, q3, Or.inr ⟨rfl, q4⟩⟩
        · obtain ⟨τ1, q1, q2, q3⟩ := s_comNew hd hm hN hv hf
          exact ⟨τ1, q1, q2, q3, fun z => by omega⟩
      · have hN' : N = 120 := by have := hd.1; omega
        refine ⟨-1000003, N, g, o, hd, by omega, fun σ hc => ⟨σ, ?_, hc, Fx.rf, Or.inl ⟨rfl, rfl, rfl, rfl⟩⟩, fun τ hm => ⟨τ, ?_, hm, Fr.rf, fun _ => rfl⟩⟩
        · have hnone : gR σ 3 t1 = none := by
            rcases hc.2.2.2.1 t1 k1 with ⟨q, -⟩ | ⟨n, q1, q2, -⟩
            · exact q
            · exact absurd q2 (hf n q1)
          rw [s_admOk hv, s_find0, if_pos hv.1, ix_cl (by omega), hnone]
          simp only [Option.bind_some, oC_none]
          rw [hc.2.1, hN', if_neg (show ¬ nI 120 < 120 by decide)]
        · have nn : f_X12_numberOf (nI t1) τ = some (-1000000, τ) := s_numNone hd.1 hm.1 (-1000000) aN 0 (by omega) (by show N < 0 + 1000000; omega) (fun p _ hp => by rw [(hm.2.1 p hp).1]; exact hf p hp)
          rw [s_comOk hv, nn]
          simp only [Option.bind_some]
          rw [if_pos trivial, hm.1, hN', if_pos (show nI 120 = 120 by rfl)]
    · obtain ⟨n, hn, hgn⟩ : ∃ n, n < N ∧ g 61 n = nI t1 := by
        apply Classical.byContradiction
        intro z
        exact hf (fun n hn q => z ⟨n, hn, q⟩)
      refine ⟨-1000002, N, g, o, hd, by omega, fun σ hc => ⟨σ, ?_, hc, Fx.rf, Or.inl ⟨rfl, rfl, rfl, rfl⟩⟩, fun τ hm => ⟨τ, ?_, hm, Fr.rf, fun _ => rfl⟩⟩
      · rcases hc.2.2.2.1 t1 k1 with ⟨-, q⟩ | ⟨m, q1, q2, q3⟩
        · exact absurd hgn (q n hn)
        · rw [s_admOk hv, s_find0, if_pos hv.1, ix_cl (by omega), q3]
          simp only [Option.bind_some, oC_some]
      · have nn : f_X12_numberOf (nI t1) τ = some (nI n, τ) := s_numSome hd.1 hm.1 hn (by rw [(hm.2.1 n hn).1, hgn]) (fun p hp hp2 => by rw [(hm.2.1 p hp2).1]; intro z; exact absurd (hd.2.2.1 p n hp2 hn (z.trans hgn.symm)) (by omega)) aN 0 _ (by omega) (by have := hd.1; show N < 0 + 1000000; omega)
        rw [s_comOk hv, nn]
        simp only [Option.bind_some]
        rw [if_neg (nI_noNone (by have := hd.1; omega))]
  · exact ⟨-1000001, N, g, o, hd, by omega, fun σ hc => ⟨σ, s_admBad hv, hc, Fx.rf, Or.inl ⟨rfl, rfl, rfl, rfl⟩⟩, fun τ hm => ⟨τ, s_comBad hv, hm, Fr.rf, fun _ => rfl⟩⟩
/-- the invariant behind payments that came -/
def cPB (a k : Nat) : Prop := cA a k ∨ cM a k ∨ (a = 0 ∧ k = 10) ∨ (a = 57 ∧ (k = 0 ∨ k = 1))
theorem Inv.came {σ σ' : aSt} {N' : Nat} {g' : Nat → Nat → Int32} {o' : Nat → Nat} (h : Inv σ) (f : Fx cPB σ σ') (hd : dW N' g' o') (hc : pC σ' N' g' o') (hm : pM σ' N' g' o') (hz : ∀ j, j < 240 → gI σ' 23 j = -1) (he : gI σ' 0 10 = gI σ' 57 1) : Inv σ' := by
  obtain ⟨h1, h2, h3, h4, h5, N, b, R, h6, h7, h8, h9⟩ := h
  have F : Fr cPB σ ((gI σ', gL σ', gR σ', gN σ) : aSt) := ⟨rfl, f.1, f.2⟩
  have i1 : pSheets σ' := by
    have z := h1.fr F (fun a k q => by unfold cPB cA cM at q; omega)
    exact z
  have i2 : pMark σ' := by
    have z := h2.fr F (by unfold cPB cA cM; omega) (by unfold cPB cA cM; omega)
    exact z
  have i3 : pTape σ' := by
    have z := h3.fr F (by unfold cPB cA cM; omega) (by unfold cPB cA cM; omega) (fun k => by unfold cPB cA cM; omega) (fun k => by unfold cPB cA cM; omega)
    exact z
  have i5 : pTrace σ' := by
    have z := h5.fr F (by unfold cPB cA cM; omega) (by unfold cPB cA cM; omega) (fun k => by unfold cPB cA cM; omega) (fun k => by unfold cPB cA cM; omega)
    exact z
  have i8 : pBook σ' b R := by
    have z := h8.fr F (fun a k q => by unfold cPB cA cM at q; unfold cBook; rcases h6 with ⟨z, -⟩ | ⟨z, -⟩ <;> omega)
    exact z
  obtain ⟨s1, s2, s3, s4, s5, s6⟩ := h4
  refine ⟨i1, i2, i3, ?_, i5, N', b, R, ?_, pPay.join hd hc hm, i8, pCache.all hd.1 hz⟩
  · unfold pSmall
    rw [f.1 0 9 (by unfold cPB cA cM; omega), f.1 57 31 (by unfold cPB cA cM; omega), f.1 26 0 (by unfold cPB cA cM; omega), f.1 26 1 (by unfold cPB cA cM; omega), f.1 80 0 (by unfold cPB cA cM; omega), f.1 80 1 (by unfold cPB cA cM; omega)]
    exact ⟨he, s2, s3, s4, s5, s6⟩
  · rw [f.2 11 0 (by unfold cPB cA cM; omega), f.2 0 8 (by unfold cPB cA cM; omega)]
    exact h6
theorem pM.fr {σ σ' : aSt} {N : Nat} {g : Nat → Nat → Int32} {o : Nat → Nat} (h : pM σ N g o) (f : ∀ a k, cM a k → gI σ' a k = gI σ a k) : pM σ' N g o := by
  obtain ⟨m1, m2, m3⟩ := h
  have e : ∀ a k, 61 ≤ a → a ≤ 68 → gI σ' a k = gI σ a k := fun a k q1 q2 => f a k (Or.inl ⟨q1, q2⟩)
  refine ⟨by rw [f 57 5 (Or.inr ⟨rfl, rfl⟩)]; exact m1, fun n hn => ?_, fun i hi => by rw [e 68 i (by omega) (by omega)]; exact m3 i hi⟩
  rw [e 61 n (by omega) (by omega), e 62 n (by omega) (by omega), e 63 n (by omega) (by omega), e 64 n (by omega) (by omega), e 65 n (by omega) (by omega), e 66 n (by omega) (by omega), e 67 n (by omega) (by omega)]
  exact m2 n hn
theorem pC.fr {σ σ' : aSt} {N : Nat} {g : Nat → Nat → Int32} {o : Nat → Nat} (h : pC σ N g o) (hn : gN σ' = gN σ) (f : ∀ a k, cA a k → gI σ' a k = gI σ a k) (fr : ∀ a k, cA a k → gR σ' a k = gR σ a k) : pC σ' N g o := by
  obtain ⟨c1, c2, c3, c4, c5⟩ := h
  refine ⟨by rw [hn]; exact c1, by rw [f 2 2 (by simp [cA])]; exact c2, fun n hn => ?_, fun t ht => by rw [fr 3 t (by simp [cA])]; exact c4 t ht, fun i hi => by rw [fr 4 i (by simp [cA])]; exact c5 i hi⟩
  have e : ∀ k, gI σ' (84 + n) k = gI σ (84 + n) k := fun k => f _ k (by unfold cA; omega)
  rw [e, e, e, e, e, e, e, e]
  exact c3 n hn
theorem op_pay {σ : aSt} (h : Inv σ) (p1 p2 p3 p4 p5 p6 : Int32) : Op (f_X11_pay p1 p2 p3 p4 p5 p6) (f_X12_pay p1 p2 p3 p4 p5 p6) σ := by
  obtain ⟨N, hp⟩ := h.pay
  obtain ⟨hd, hc, hm⟩ := hp.split
  obtain ⟨r, N', g', o', hd', hN', kx, km⟩ := both hd p1 p2 p3 p4 p5 p6
  obtain ⟨σ1, a1, a2, a3, a4⟩ := kx σ hc
  have hm1 : pM (sI σ1 57 0 0) N (gI σ) (ord σ) := hm.fr (fun a k q => by rw [gI_other (by unfold cM at q; omega), a3.1 a k (by unfold cM at q; unfold cA; omega)])
  obtain ⟨σ2, b1, b2, b3, b4⟩ := km _ hm1
  refine ⟨r, σ1, σ2, ?_, ?_, ?_⟩
  · unfold f_X11_pay
    rw [if_pos (by omega), a1]
    rfl
  · unfold f_X12_pay
    rw [b1]
    rfl
  · rcases a4 with ⟨q1, q2, q3, q4⟩ | ⟨q1, q2⟩
    · rw [b4 q2, q1]
      exact h.thr 0
    · have F : Fx cPB σ σ2 := ((a3.mono (fun a k q => Or.inl q)).tr (Fr.sI Fr.rf (C := cPB) (a := 57) (k := 0) (v := 0) (by simp [cPB])).fx).tr (b3.fx.mono (fun a k q => Or.inr (Or.inl q)))
      have cz : ∀ a k, cA a k → ¬ cM a k ∧ (a ≠ 57 ∨ k ≠ 0) := fun a k q => by unfold cA at q; unfold cM; omega
      refine h.came F hd' (a2.fr b3.1 (fun a k q => ?_) (fun a k q => ?_)) b2 (fun j hj => ?_) ?_
      · rw [b3.2.1 a k (cz a k q).1, gI_other (cz a k q).2]
      · rw [b3.2.2 a k (cz a k q).1]
        rfl
      · rw [b3.2.1 23 j (by unfold cM; omega), gI_other (Or.inl (by omega))]
        exact q2 j hj
      · rw [b3.2.1 0 10 (by unfold cM; omega), gI_other (Or.inl (by omega)), b3.2.1 57 1 (by unfold cM; omega), gI_other (Or.inr (by omega)), a3.1 0 10 (by unfold cA; omega), a3.1 57 1 (by unfold cA; omega)]
        exact h.2.2.2.1.1
