/-! ===== rules, both sides ===== -/
def cCf (b a k : Nat) : Prop := cXr b a k ∨ (a = 5 ∧ k = 3) ∨ (a = 0 ∧ k = 9)
def cCs (b a k : Nat) : Prop := cXr b a k ∨ (a = 5 ∧ k = 3) ∨ a = 23 ∨ (a = 11 ∧ k = 0) ∨ (a = 0 ∧ k = 8)
theorem fail_M {σ σ1 : aSt} {t : Nat → Nat} {n b f q : Nat} (h : Inv σ) (hb : b = 12 ∨ b = 34) (h08 : gR σ 0 8 = some b) (hf : f ≠ 0) (hf2 : f < 100) (fc : Fr (cCf b) σ σ1) (e53 : gI σ1 5 3 = nI 0) (e09 : gI σ1 0 9 = nI f) {τ2 : aSt} (k2 : Fr (fun a k => cMr a k ∨ (a = 57 ∧ (k = 0 ∨ k = 30 ∨ k = 32))) σ1 τ2) (k30 : gI τ2 57 30 = 0) (hM : fM f q τ2) : ∃ σ2, f_X12_rules_91 τ2 = some (-1000100 - nI q, σ2) ∧ Inv σ2 := by
  refine ⟨sI τ2 57 31 (nI f), ?_, ?_⟩
  · unfold f_X12_rules_91
    rw [hM.1, if_neg (nI_nle (by omega) (by omega)), gI_other (Or.inr (by omega)), hM.2]
  · refine Inv.flt (σ := σ) h hb h08 ?_ ?_ ?_ ?_
    · refine Fr.sI ((fc.mono (fun a k q => ?_)).tr (k2.mono (fun a k q => ?_))) ?_
      · unfold cCf at q
        unfold cFl
        rcases q with q | q | q
        · rcases cXr_scr q with z | z
          · exact Or.inl z
          · exact Or.inr (Or.inl z)
        · exact Or.inr (Or.inr (Or.inl q))
        · exact Or.inr (Or.inr (Or.inr (Or.inl q)))
      · rcases cMr_scr q with z | z
        · exact Or.inl z
        · exact Or.inr (Or.inr (Or.inr (Or.inr ⟨z.1, Or.inl z.2⟩)))
      · exact Or.inr (Or.inr (Or.inr (Or.inr ⟨rfl, Or.inr rfl⟩)))
    · rw [gI_other (Or.inl (by omega)), k2.2.1 5 3 (by unfold cMr; omega)]
      exact e53
    · rw [gI_other (Or.inr (by omega)), k30]
      rfl
    · rw [gI_same, gI_other (Or.inl (by omega)), k2.2.1 0 9 (by unfold cMr; omega)]
      exact e09
theorem succ_M {σ σ1 : aSt} {t : Nat → Nat} {n b : Nat} {lim : Nat → Int32} {R : Nat} {wp cn : Nat → Nat} (h : Inv σ) (hb : b = 12 ∨ b = 34) (h08 : gR σ 0 8 = some b) (hv : vD t n lim R wp cn) (fc : Fr (cCs b) σ σ1) (e53 : gI σ1 5 3 = nI 0) (r11 : gR σ1 11 0 = some b) (r08 : gR σ1 0 8 = gR σ 11 0) (hz : ∀ j, j < 240 → gI σ1 23 j = -1) (hC : bkC t n b lim R wp cn σ1) {τ2 : aSt} (k2 : Fr (fun a k => cMr a k ∨ (a = 57 ∧ (k = 0 ∨ k = 30 ∨ k = 32))) σ1 τ2) (k30 : gI τ2 57 30 = 0) (k37 : gI τ2 57 37 = 0) (hM : bkM t n lim R wp cn τ2) : ∃ σ2, f_X12_rules_91 τ2 = some (nI R, σ2) ∧ Inv σ2 := by
  obtain ⟨m1, m2, m3⟩ := hM
  have e91 : f_X12_rules_91 τ2 = f_X12_rules_165 aN 0 (sI (sI (sI (sI (sI τ2 57 15 (lim 0)) 57 16 (lim 1)) 57 17 (lim 2)) 57 18 (lim 3)) 57 20 (nI R)) := by
    unfold f_X12_rules_91 f_X12_rules_145
    rw [k37, if_pos (Int32.le_refl _)]
    have a1 : ∀ v, gI (sI τ2 57 15 v) 76 1 = lim 1 := fun v => by rw [gI_other (Or.inl (by omega))]; exact m2 1 (by omega)
    have a2 : ∀ v w, gI (sI (sI τ2 57 15 v) 57 16 w) 76 2 = lim 2 := fun v w => by rw [gI_other (Or.inl (by omega)), gI_other (Or.inl (by omega))]; exact m2 2 (by omega)
    have a3 : ∀ v w x, gI (sI (sI (sI τ2 57 15 v) 57 16 w) 57 17 x) 76 3 = lim 3 := fun v w x => by rw [gI_other (Or.inl (by omega)), gI_other (Or.inl (by omega)), gI_other (Or.inl (by omega))]; exact m2 3 (by omega)
    have a4 : ∀ v w x y, gI (sI (sI (sI (sI τ2 57 15 v) 57 16 w) 57 17 x) 57 18 y) 57 24 = nI R := fun v w x y => by rw [gI_other (Or.inr (by omega)), gI_other (Or.inr (by omega)), gI_other (Or.inr (by omega)), gI_other (Or.inr (by omega))]; exact m1
    simp only [m2 0 (show 0 < 4 by omega), a1, a2, a3, a4]
  generalize hτ3 : sI (sI (sI (sI (sI τ2 57 15 (lim 0)) 57 16 (lim 1)) 57 17 (lim 2)) 57 18 (lim 3)) 57 20 (nI R) = τ3 at e91
  have f3 : Fr (fun a k => a = 57 ∧ ((15 ≤ k ∧ k ≤ 18) ∨ k = 20)) τ2 τ3 := by
    rw [← hτ3]
    refine Fr.sI (Fr.sI (Fr.sI (Fr.sI (Fr.sI Fr.rf ?_) ?_) ?_) ?_) ?_ <;> simp
  have l15 : gI τ3 57 15 = lim 0 := by rw [← hτ3, gI_other (Or.inr (by omega)), gI_other (Or.inr (by omega)), gI_other (Or.inr (by omega)), gI_other (Or.inr (by omega)), gI_same]
  have l16 : gI τ3 57 16 = lim 1 := by rw [← hτ3, gI_other (Or.inr (by omega)), gI_other (Or.inr (by omega)), gI_other (Or.inr (by omega)), gI_same]
  have l17 : gI τ3 57 17 = lim 2 := by rw [← hτ3, gI_other (Or.inr (by omega)), gI_other (Or.inr (by omega)), gI_same]
  have l18 : gI τ3 57 18 = lim 3 := by rw [← hτ3, gI_other (Or.inr (by omega)), gI_same]
  have l20 : gI τ3 57 20 = nI R := by rw [← hτ3, gI_same]
  obtain ⟨τ4, w1, w2, w3, -⟩ := s_copy165 aN 0 τ3 (by omega) (by show 12 < 0 + 1000000; omega)
  refine ⟨τ4, ?_, ?_⟩
  · rw [e91, show f_X12_rules_165 aN 0 τ3 = _ from w1, l20]
  have g57 : ∀ k, gI τ4 57 k = gI τ3 57 k := fun k => w2.2.1 57 k (by omega)
  have gC : ∀ a k, b ≤ a → a ≤ b + 6 → gI τ4 a k = gI σ1 a k := fun a k q1 q2 => by
    rw [w2.2.1 a k (by omega), f3.2.1 a k (by omega), k2.2.1 a k (by unfold cMr; omega)]
  have hB : pBook τ4 b R := by
    refine bk_new (τ := τ2) hv hC ⟨m1, m2, m3⟩ gC (by rw [g57]; exact l20) (by rw [g57]; exact l15) (by rw [g57]; exact l16) (by rw [g57]; exact l17) (by rw [g57]; exact l18) (fun i hi => ?_)
    obtain ⟨y1, y2, y3⟩ := w3 i (Nat.zero_le _) hi
    refine ⟨by rw [y1, f3.2.1 73 i (by omega)], by rw [y2, f3.2.1 74 i (by omega)], fun y z1 z2 => by rw [y3 y z1 z2, f3.2.1 75 y (by omega)]⟩
  refine Inv.newB (σ := σ) (b := b) h hb h08 ?_ ?_ ?_ hB ?_ ?_ ?_
  · refine (fc.mono (fun a k q => ?_)).tr ((k2.mono (fun a k q => ?_)).tr ((f3.mono (fun a k q => ?_)).tr (w2.mono (fun a k q => ?_))))
    · unfold cCs at q
      unfold cSu
      rcases q with q | q | q | q | q
      · rcases cXr_scr q with z | z
        · exact Or.inl z
        · exact Or.inr (Or.inl z)
      · exact Or.inr (Or.inr (Or.inl q))
      · exact Or.inr (Or.inr (Or.inr (Or.inr (Or.inl q))))
      · exact Or.inr (Or.inr (Or.inr (Or.inr (Or.inr (Or.inl q)))))
      · exact Or.inr (Or.inr (Or.inr (Or.inr (Or.inr (Or.inr (Or.inl q))))))
    · rcases cMr_scr q with z | z
      · exact Or.inl z
      · exact Or.inr (Or.inr (Or.inr (Or.inl ⟨z.1, Or.inl z.2⟩)))
    · exact Or.inr (Or.inr (Or.inr (Or.inl ⟨q.1, Or.inr q.2⟩)))
    · exact Or.inr (Or.inr (Or.inr (Or.inr (Or.inr (Or.inr (Or.inr (by omega)))))))
  · rw [w2.2.1 5 3 (by omega), f3.2.1 5 3 (by omega), k2.2.1 5 3 (by unfold cMr; omega)]
    exact e53
  · rw [g57, f3.2.1 57 30 (by omega), k30]
    rfl
  · rw [w2.2.2 11 0 (by omega), f3.2.2 11 0 (by omega), k2.2.2 11 0 (by unfold cMr; omega)]
    exact r11
  · rw [w2.2.2 0 8 (by omega), f3.2.2 0 8 (by omega), k2.2.2 0 8 (by unfold cMr; omega)]
    exact r08
  · intro j hj
    rw [w2.2.1 23 j (by omega), f3.2.1 23 j (by omega), k2.2.1 23 j (by unfold cMr; omega)]
    exact hz j hj
theorem op_rules {σ : aSt} (h : Inv σ) : Op f_X11_rules f_X12_rules σ := by
  have hgn := h.gn
  obtain ⟨n, hn, p1, p2, p3⟩ := h.2.2.1
  obtain ⟨b, b0, hb, hbb, r08, r11⟩ : ∃ b b0, (b = 12 ∨ b = 34) ∧ b + b0 = 46 ∧ gR σ 0 8 = some b ∧ gR σ 11 0 = some b0 := by
    obtain ⟨-, -, -, -, -, N, b0, R0, hbk, -⟩ := h
    rcases hbk with ⟨q1, q2, q3⟩ | ⟨q1, q2, q3⟩
    · exact ⟨34, 12, Or.inr rfl, rfl, q3, q2⟩
    · exact ⟨12, 34, Or.inl rfl, rfl, q3, q2⟩
  obtain ⟨t, ht'⟩ : ∃ t : Nat → Nat, ∀ i, i < n → t i < 256 ∧ gI σ 77 i = nI (t i) ∧ gI σ 9 i = sb (t i) := by
    refine ⟨fun i => (gI σ 77 i).toNatClampNeg, fun i hi => ?_⟩
    obtain ⟨c, c1, c2, c3⟩ := p3 i hi
    have e : (gI σ 77 i).toNatClampNeg = c := by rw [c2]; exact ix_cl (by omega)
    show (gI σ 77 i).toNatClampNeg < 256 ∧ gI σ 77 i = nI (gI σ 77 i).toNatClampNeg ∧ gI σ 9 i = sb (gI σ 77 i).toNatClampNeg
    rw [e]
    exact ⟨c1, c2, c3⟩
  have htx : tx t n σ := ⟨hn, fun i hi => (ht' i hi).1, p1, fun i hi => (ht' i hi).2.2⟩
  obtain ⟨r, hr⟩ : ∃ r, r = rd t n (n + 1) (sk t n 0) lim0 0 (fun _ => 0) (fun _ => 0) := ⟨_, rfl⟩
  have hlt : r.1.1 < 100 := by rw [hr]; exact rd_lt _ _ _ _ _ _
  rcases s_read hb hgn htx r hr with ⟨w0, τ1, w1, w2, w3, w4⟩ | ⟨w0, τ1, w1, w2, w3⟩
  · -- taken over
    have g1 : 84 ≤ gN (sR (sI τ1 5 3 0) 11 0 (some b)) := by show 84 ≤ gN τ1; rw [w2.1]; exact hgn
    obtain ⟨τb, u1, u2, -, u4⟩ := s_forget g1
    have ra : gR (sI τ1 5 3 0) 0 8 = some b := by show gR τ1 0 8 = _; rw [w2.2.2 0 8 (by unfold cXr; omega)]; exact r08
    have rb : gR (sI τ1 5 3 0) 11 0 = some b0 := by show gR τ1 11 0 = _; rw [w2.2.2 11 0 (by unfold cXr; omega)]; exact r11
    have fb : Fr (cCs b) σ (sR τb 0 8 (some b0)) := by
      refine Fr.sR (Fr.tr (Fr.sR (Fr.sI (w2.mono (fun a k q => Or.inl q)) ?_) ?_) (u2.mono (fun a k q => ?_))) ?_
      · right; omega
      · right; omega
      · right; omega
      · right; omega
    have r11' : gR (sR τb 0 8 (some b0)) 11 0 = some b := by
      rw [gR_sR, if_neg (by omega), u2.2.2 11 0 (by omega), gRs]
    have r08' : gR (sR τb 0 8 (some b0)) 0 8 = gR σ 11 0 := by rw [gRs, r11]
    have gI1 : ∀ a k, a ≠ 23 → ¬ (a = 5 ∧ k = 3) → gI (sR τb 0 8 (some b0)) a k = gI τ1 a k := fun a k q1 q2 => by
      show gI τb a k = _
      rw [u2.2.1 a k q1]
      show gI (sI τ1 5 3 0) a k = _
      rw [gI_other (by omega)]
    have e53 : gI (sR τb 0 8 (some b0)) 5 3 = nI 0 := by
      show gI τb 5 3 = _
      rw [u2.2.1 5 3 (by omega)]
      show gI (sI τ1 5 3 0) 5 3 = _
      rw [gI_same]
      rfl
    have hC1 : bkC t n b r.2.1 r.2.2.1 r.2.2.2.1 r.2.2.2.2 (sR τb 0 8 (some b0)) := by
      refine ⟨by rw [gI1 _ _ (by omega) (by omega)]; exact w3.1, fun k hk => by rw [gI1 _ _ (by omega) (by omega)]; exact w3.2.1 k hk, fun i hi => ?_⟩
      obtain ⟨y1, y2, y3⟩ := w3.2.2 i hi
      refine ⟨by rw [gI1 _ _ (by omega) (by omega)]; exact y1, by rw [gI1 _ _ (by omega) (by omega)]; exact y2, fun j hj => ?_⟩
      rw [gI1 _ _ (by omega) (by omega), gI1 _ _ (by omega) (by omega), gI1 _ _ (by omega) (by omega)]
      exact y3 j hj
    have hz1 : ∀ j, j < 240 → gI (sR τb 0 8 (some b0)) 23 j = -1 := u4
    have ex : f_X11_rules σ = some (nI r.2.2.1, sR τb 0 8 (some b0)) := by
      unfold f_X11_rules f_X2_follow
      rw [r08, w1, Option.bind_some, if_neg (show ¬ (1 : Int32) = 0 by decide), ra, rb, u1, Option.bind_some, Option.bind_some, r11']
      simp only [oC_some]
      rw [if_pos ⟨(bk_ok b hb).1, by rw [fb.1]; omega⟩, hC1.1]
    generalize sR τb 0 8 (some b0) = σ1 at *
    have k30 : gI σ1 57 30 = nI n := by rw [fb.2.1 57 30 (by unfold cCs cXr; omega)]; exact p2
    have k77 : ∀ i, i < n → gI σ1 77 i = nI (t i) := fun i hi => by rw [fb.2.1 77 i (by unfold cCs cXr; omega)]; exact (ht' i hi).2.1
    obtain ⟨τ2, k1, k2, k3, k4, -⟩ := s_rulesM (τ := σ1) hn (fun i hi => (ht' i hi).1) k30 k77 r hr
    obtain ⟨m1, m2⟩ := k4 w0
    obtain ⟨σ2, v1, v2⟩ := succ_M h hb r08 w4 fb e53 r11' r08' hz1 hC1 k2 k3 m1 m2
    exact ⟨_, σ1, σ2, ex, by rw [k1]; exact v1, v2⟩
  · -- a fault
    have fb : Fr (cCf b) σ (sI (sI τ1 5 3 0) 0 9 (nI r.1.1)) := by
      refine Fr.sI (Fr.sI (w2.mono (fun a k q => Or.inl q)) ?_) ?_
      · right; omega
      · right; omega
    have e100 : gI (sI τ1 5 3 0) 10 0 = nI r.1.1 := by rw [gI_other (Or.inl (by omega))]; exact w3.1
    have e101 : gI (sI (sI τ1 5 3 0) 0 9 (nI r.1.1)) 10 1 = nI r.1.2 := by rw [gI_other (Or.inl (by omega)), gI_other (Or.inl (by omega))]; exact w3.2
    have e09 : gI (sI (sI τ1 5 3 0) 0 9 (nI r.1.1)) 0 9 = nI r.1.1 := gI_same _ _ _ _
    have e53 : gI (sI (sI τ1 5 3 0) 0 9 (nI r.1.1)) 5 3 = nI 0 := by rw [gI_other (Or.inl (by omega)), gI_same]; rfl
    have ex : f_X11_rules σ = some (-1000100 - nI r.1.2, sI (sI τ1 5 3 0) 0 9 (nI r.1.1)) := by
      unfold f_X11_rules
      rw [r08, w1, Option.bind_some, if_pos (show (0 : Int32) = 0 from rfl), e100, e101]
    generalize sI (sI τ1 5 3 0) 0 9 (nI r.1.1) = σ1 at *
    have k30 : gI σ1 57 30 = nI n := by rw [fb.2.1 57 30 (by unfold cCf cXr; omega)]; exact p2
    have k77 : ∀ i, i < n → gI σ1 77 i = nI (t i) := fun i hi => by rw [fb.2.1 77 i (by unfold cCf cXr; omega)]; exact (ht' i hi).2.1
    obtain ⟨τ2, k1, k2, k3, -, k5⟩ := s_rulesM (τ := σ1) hn (fun i hi => (ht' i hi).1) k30 k77 r hr
    obtain ⟨σ2, v1, v2⟩ := fail_M (t := t) (n := n) h hb r08 w0 hlt fb e53 e09 k2 k3 (k5 w0)
    exact ⟨_, σ1, σ2, ex, by rw [k1]; exact v1, v2⟩
