/-! ===== rules ===== -/
def lim0 (k : Nat) : Int32 := if k = 0 then 100 else if k = 1 then 50 else if k = 2 then 10 else 20
section RU
variable {t : Nat → Nat} {n b : Nat} {τ : aSt}
theorem vD0 : vD t n lim0 0 (fun _ => 0) (fun _ => 0) := by
  refine ⟨by omega, fun k hk => ?_, fun r hr => absurd hr (Nat.not_lt_zero _)⟩
  rcases (by omega : k = 0 ∨ k = 1 ∨ k = 2 ∨ k = 3) with q | q | q | q <;> subst q <;> decide
theorem s_clear (hb : b = 12 ∨ b = 34) (hg : 84 ≤ gN τ) : ∃ τ', f_X8_clear b τ = some ((), τ') ∧ Fr (fun a _ => b ≤ a ∧ a ≤ b + 6) τ τ' ∧ bkC t n b lim0 0 (fun _ => 0) (fun _ => 0) τ' := by
  obtain ⟨k0, k1, k2, k3, k4, k5, k6, l1, l2, l3, l4, l5, l6⟩ := bk_ok b hb
  refine ⟨sI (sI (sI (sI (sI τ (b + 1) 0 100) (b + 1) 1 50) (b + 1) 2 10) (b + 1) 3 20) b 1 0, ?_, ?_, gI_same _ _ _ _, fun k hk => ?_, fun r hr => absurd hr (Nat.not_lt_zero _)⟩
  · unfold f_X8_clear f_X8_clear_24
    have i0 : inB (0 : Int32) 4 := ix_in (n := 0) (by omega) (by omega)
    have i1 : inB (1 : Int32) 4 := ix_in (n := 1) (by omega) (by omega)
    have i2 : inB (2 : Int32) 4 := ix_in (n := 2) (by omega) (by omega)
    have i3 : inB (3 : Int32) 4 := ix_in (n := 3) (by omega) (by omega)
    have g1 : aSh b = 8 ∧ b < gN τ := ⟨k0, by omega⟩
    have g2 : aSh (b + 1) = 13 ∧ b + 1 < gN τ := ⟨k1, by omega⟩
    have g1' : ∀ x y z, aSh b = 8 ∧ b < gN (sI (sI (sI τ (b + 1) x 100) (b + 1) y 50) (b + 1) z 10) := fun _ _ _ => g1
    have g2' : ∀ x y z, aSh (b + 1) = 13 ∧ b + 1 < gN (sI (sI (sI τ (b + 1) x 100) (b + 1) y 50) (b + 1) z 10) := fun _ _ _ => g2
    rw [if_pos g1, if_pos g2, l1, if_pos i0, if_pos i1, if_pos i2, if_pos (g1' _ _ _), if_pos (g2' _ _ _), if_pos i3]
    rfl
  · refine Fr.sI (Fr.sI (Fr.sI (Fr.sI (Fr.sI Fr.rf ?_) ?_) ?_) ?_) ?_ <;> omega
  · rw [gI_other (Or.inl (by omega))]
    rcases (by omega : k = 0 ∨ k = 1 ∨ k = 2 ∨ k = 3) with q | q | q | q <;> subst q
    · rw [gI_other (Or.inr (by omega)), gI_other (Or.inr (by omega)), gI_other (Or.inr (by omega)), gI_same]; rfl
    · rw [gI_other (Or.inr (by omega)), gI_other (Or.inr (by omega)), gI_same]; rfl
    · rw [gI_other (Or.inr (by omega)), gI_same]; rfl
    · rw [gI_same]; rfl
/-- what the class's reading may write -/
def cXr (b a k : Nat) : Prop := (6 ≤ a ∧ a ≤ 8) ∨ (a = 5 ∧ k = 5) ∨ a = 10 ∨ (b ≤ a ∧ a ≤ b + 6)
theorem s_read (hb : b = 12 ∨ b = 34) (hg : 84 ≤ gN τ) (h : tx t n τ) (r : (Nat × Nat) × (Nat → Int32) × Nat × (Nat → Nat) × (Nat → Nat)) (hr : r = rd t n (n + 1) (sk t n 0) lim0 0 (fun _ => 0) (fun _ => 0)) : (r.1.1 = 0 ∧ ∃ τ', f_X6_read (some b) τ = some (1, τ') ∧ Fr (cXr b) τ τ' ∧ bkC t n b r.2.1 r.2.2.1 r.2.2.2.1 r.2.2.2.2 τ' ∧ vD t n r.2.1 r.2.2.1 r.2.2.2.1 r.2.2.2.2) ∨ (r.1.1 ≠ 0 ∧ ∃ τ', f_X6_read (some b) τ = some (0, τ') ∧ Fr (cXr b) τ τ' ∧ flt r.1.1 r.1.2 τ') := by
  have hn := h.1
  obtain ⟨τ1, M, a1, a2, a3⟩ := s_split h
  have f1 : Fr (cXr b) τ τ1 := a2.mono (fun a k q => by unfold cSp at q; unfold cXr; omega)
  have f2 : Fr (cXr b) τ (sR τ1 10 3 (some b)) := f1.sR (by unfold cXr; omega)
  have t2 : toks t n M (sR τ1 10 3 (some b)) := a3.fr (C := fun a _ => a = 10) (Fr.sR Fr.rf rfl) (fun a k q => by omega)
  have r2 : gR (sR τ1 10 3 (some b)) 10 3 = some b := gRs _ _ _ _
  have g2 : 84 ≤ gN (sR τ1 10 3 (some b)) := by rw [f2.1]; exact hg
  unfold f_X6_read
  rw [a1, Option.bind_some]
  generalize sR τ1 10 3 (some b) = τ2 at *
  rw [r2]
  simp only [oC_some]
  rw [if_pos ⟨(bk_ok b hb).1, by omega⟩]
  obtain ⟨τ3, b1, b2, b3⟩ := s_clear (t := t) (n := n) hb g2
  rw [b1, Option.bind_some]
  have t3 : toks t n M τ3 := t2.fr b2 (fun a k q => by omega)
  obtain ⟨τ4, c1, c2, c3⟩ := s_goTo (k := 0) t3 hn (Nat.zero_le _)
  rw [show f_X6_goTo 0 τ3 = _ from c1, Option.bind_some]
  have f4 : Fr (cXr b) τ τ4 := f2.tr ((b2.mono (fun a k q => by unfold cXr; omega)).tr (c2.mono (fun a k q => by unfold cGo at q; unfold cXr; omega)))
  have g4 : 84 ≤ gN τ4 := by rw [f4.1]; exact hg
  have r4 : gR τ4 10 3 = some b := by rw [c2.2.2 10 3 (by unfold cGo; omega), b2.2.2 10 3 (by omega)]; exact r2
  have k4 : bkC t n b lim0 0 (fun _ => 0) (fun _ => 0) τ4 := ⟨by rw [c2.2.1 b 1 (by unfold cGo; omega)]; exact b3.1, fun k hk => by rw [c2.2.1 (b + 1) k (by unfold cGo; omega)]; exact b3.2.1 k hk, fun r hr => absurd hr (Nat.not_lt_zero _)⟩
  have hs := sk_rng (t := t) (Nat.zero_le n)
  have e0 : ps t n 0 = sk t n 0 := rfl
  rw [e0] at c3
  have wk : ∀ {x y : aSt}, Fr (cRd b) x y → Fr (cXr b) x y := fun f => f.mono (fun a k q => by unfold cRd cGo at q; unfold cXr; omega)
  rcases s_rdC hb (n + 1) aN 0 (sk t n 0) 0 τ4 lim0 0 (fun _ => 0) (fun _ => 0) (by omega) (by show n - sk t n 0 < 1000000; omega) (by omega) g4 r4 vD0 k4 c3 with ⟨w0, τ5, w1, w2, w3, w4⟩ | ⟨w0, τ5, w1, w2, w3⟩
  · rw [← hr] at w0 w3 w4
    exact Or.inl ⟨w0, τ5, w1, f4.tr (wk w2), w3, w4⟩
  · rw [← hr] at w0 w3
    exact Or.inr ⟨w0, τ5, w1, f4.tr (wk w2), w3⟩
/-- the reference takes the new rules over -/
theorem s_copy197 (rec165 : Int32 → aSt → Option (Int32 × aSt)) {r : Nat} (hr : r < 12) : ∀ (f k : Nat) (τ : aSt), k ≤ 12 → 12 < k + f → ∃ τ', f_X12_rules_197 rec165 f (nI r) (nI k) τ = rec165 (nI (r + 1)) τ' ∧ Fr (fun a y => a = 72 ∧ 12 * r + k ≤ y ∧ y < 12 * r + 12) τ τ' ∧ ∀ y, 12 * r + k ≤ y → y < 12 * r + 12 → gI τ' 72 y = gI τ 75 y := by
  intro f
  induction f with
  | zero => intro k τ h1 h2; omega
  | succ f ih =>
    intro k τ h1 h2
    show ∃ τ', f_X12_rules_197_b rec165 (f_X12_rules_197 rec165 f) (nI r) (nI k) τ = _ ∧ _
    unfold f_X12_rules_197_b
    by_cases e : k = 12
    · rw [e, if_pos (show (12 : Int32) ≤ nI 12 from Int32.le_refl _), nI_1]
      exact ⟨τ, rfl, Fr.rf, fun y q1 q2 => by omega⟩
    · have ib : inB (nI (12 * r + k)) 144 := ix_in (by omega) (by omega)
      rw [if_neg (show ¬ (12 : Int32) ≤ nI k by rw [show (12 : Int32) = nI 12 from rfl, nI_leI (by omega) (by omega)]; omega), show (12 : Int32) = nI 12 from rfl, pk_mul, nI_add, if_pos ib, if_pos ib, ix_cl (by omega), nI_1]
      obtain ⟨τ1, k1, k2, k3⟩ := ih (k + 1) (sI τ 72 (12 * r + k) (gI τ 75 (12 * r + k))) (by omega) (by omega)
      refine ⟨τ1, k1, (Fr.sI Fr.rf ⟨rfl, by omega, by omega⟩ : Fr (fun a y => a = 72 ∧ 12 * r + k ≤ y ∧ y < 12 * r + 12) τ _).tr (k2.mono (fun a y q => ⟨q.1, by omega, q.2.2⟩)), fun y q1 q2 => ?_⟩
      by_cases ey : y = 12 * r + k
      · rw [ey, k2.2.1 72 _ (by omega), gI_same]
      · rw [k3 y (by omega) q2, gI_other (Or.inl (by omega))]
theorem s_copy165 : ∀ (f r : Nat) (τ : aSt), r ≤ 12 → 12 < r + f → ∃ τ', f_X12_rules_165 f (nI r) τ = some (gI τ 57 20, τ') ∧ Fr (fun a y => (a = 70 ∨ a = 71 ∨ a = 72) ∧ True) τ τ' ∧ (∀ i, r ≤ i → i < 12 → gI τ' 70 i = gI τ 73 i ∧ gI τ' 71 i = gI τ 74 i ∧ ∀ y, 12 * i ≤ y → y < 12 * i + 12 → gI τ' 72 y = gI τ 75 y) ∧ (∀ i, i < r → gI τ' 70 i = gI τ 70 i ∧ gI τ' 71 i = gI τ 71 i ∧ ∀ y, 12 * i ≤ y → y < 12 * i + 12 → gI τ' 72 y = gI τ 72 y) := by
  intro f
  induction f with
  | zero => intro r τ h1 h2; omega
  | succ f ih =>
    intro r τ h1 h2
    show ∃ τ', f_X12_rules_165_b (f_X12_rules_165 f) (nI r) τ = _ ∧ _
    unfold f_X12_rules_165_b
    by_cases e : r = 12
    · rw [e, if_pos (show (12 : Int32) ≤ nI 12 from Int32.le_refl _)]
      exact ⟨τ, rfl, Fr.rf, fun i q1 q2 => by omega, fun i _ => ⟨rfl, rfl, fun _ _ _ => rfl⟩⟩
    · have ib : inB (nI r) 12 := ix_in (by omega) (by omega)
      rw [if_neg (show ¬ (12 : Int32) ≤ nI r by rw [show (12 : Int32) = nI 12 from rfl, nI_leI (by omega) (by omega)]; omega), if_pos ib, if_pos ib, if_pos ib, if_pos ib, ix_cl (by omega), gI_other (σ := τ) (a := 70) (b := 74) (Or.inl (by omega))]
      generalize hτ1 : sI (sI τ 70 r (gI τ 73 r)) 71 r (gI τ 74 r) = τ1
      have f1 : Fr (fun a y => (a = 70 ∨ a = 71) ∧ y = r) τ τ1 := by
        rw [← hτ1]
        exact Fr.sI (Fr.sI Fr.rf ⟨Or.inl rfl, rfl⟩) ⟨Or.inr rfl, rfl⟩
      obtain ⟨τ2, k1, k2, k3⟩ := s_copy197 (f_X12_rules_165 f) (show r < 12 by omega) aN 0 τ1 (by omega) (by show 12 < 0 + 1000000; omega)
      rw [show f_X12_rules_197 (f_X12_rules_165 f) aN (nI r) 0 τ1 = _ from k1]
      obtain ⟨τ3, w1, w2, w3, w4⟩ := ih (r + 1) τ2 (by omega) (by omega)
      have g : ∀ a y, a ≠ 70 → a ≠ 71 → a ≠ 72 → gI τ2 a y = gI τ a y := fun a y q1 q2 q3 => by rw [k2.2.1 a y (by omega), f1.2.1 a y (by omega)]
      refine ⟨τ3, ?_, ?_, fun i q1 q2 => ?_, fun i q1 => ?_⟩
      · rw [w1, g 57 20 (by omega) (by omega) (by omega)]
      · exact (f1.mono (fun a y q => ⟨by omega, trivial⟩)).tr ((k2.mono (fun a y q => ⟨by omega, trivial⟩)).tr w2)
      · by_cases ei : i = r
        · obtain ⟨y1, y2, y3⟩ := w4 i (by omega)
          rw [ei] at y1 y2 y3 ⊢
          refine ⟨?_, ?_, fun y z1 z2 => ?_⟩
          · rw [y1, k2.2.1 70 r (by omega), ← hτ1, gI_other (Or.inl (by omega)), gI_same]
          · rw [y2, k2.2.1 71 r (by omega), ← hτ1, gI_same]
          · rw [y3 y z1 z2, k3 y (by omega) z2, f1.2.1 75 y (by omega)]
        · obtain ⟨y1, y2, y3⟩ := w3 i (by omega) q2
          refine ⟨?_, ?_, fun y z1 z2 => ?_⟩
          · rw [y1, g 73 i (by omega) (by omega) (by omega)]
          · rw [y2, g 74 i (by omega) (by omega) (by omega)]
          · rw [y3 y z1 z2, g 75 y (by omega) (by omega) (by omega)]
      · obtain ⟨y1, y2, y3⟩ := w4 i (by omega)
        refine ⟨?_, ?_, fun y z1 z2 => ?_⟩
        · rw [y1, k2.2.1 70 i (by omega), f1.2.1 70 i (by omega)]
        · rw [y2, k2.2.1 71 i (by omega), f1.2.1 71 i (by omega)]
        · rw [y3 y z1 z2, k2.2.1 72 y (by omega), f1.2.1 72 y (by omega)]
/-- the reference reads all -/
theorem s_rulesM (hn : n ≤ 600) (ht : ∀ i, i < n → t i < 256) (h30 : gI τ 57 30 = nI n) (h77 : ∀ i, i < n → gI τ 77 i = nI (t i)) (r : (Nat × Nat) × (Nat → Int32) × Nat × (Nat → Nat) × (Nat → Nat)) (hr : r = rd t n (n + 1) (sk t n 0) lim0 0 (fun _ => 0) (fun _ => 0)) : ∃ τ', f_X12_rules τ = f_X12_rules_91 τ' ∧ Fr (fun a k => cMr a k ∨ (a = 57 ∧ (k = 0 ∨ k = 30 ∨ k = 32))) τ τ' ∧ gI τ' 57 30 = 0 ∧ (r.1.1 = 0 → gI τ' 57 37 = 0 ∧ bkM t n r.2.1 r.2.2.1 r.2.2.2.1 r.2.2.2.2 τ') ∧ (r.1.1 ≠ 0 → fM r.1.1 r.1.2 τ') := by
  unfold f_X12_rules f_X12_rules_18 f_X12_rules_33 f_X12_rules_57
  rw [thr_o 0 (Or.inr (by omega)), h30]
  generalize hτ : sI (sI (sI (sI (sI (sI (sI (sI (sI (sI τ 57 0 0) 57 32 (nI n)) 57 30 0) 57 33 0) 57 37 0) 57 24 0) 76 0 100) 76 1 50) 76 2 10) 76 3 20 = τ1
  have f1 : Fr (fun a k => cMr a k ∨ (a = 57 ∧ (k = 0 ∨ k = 30 ∨ k = 32))) τ τ1 := by
    rw [← hτ]
    refine Fr.sI (Fr.sI (Fr.sI (Fr.sI (Fr.sI (Fr.sI (Fr.sI (Fr.sI (Fr.sI (Fr.sI Fr.rf ?_) ?_) ?_) ?_) ?_) ?_) ?_) ?_) ?_) ?_ <;> unfold cMr <;> omega
  have g76 : ∀ k, k ≠ 0 → gI τ1 57 k = gI (sI (sI (sI (sI (sI τ 57 32 (nI n)) 57 30 0) 57 33 0) 57 37 0) 57 24 0) 57 k := fun k hk => by
    rw [← hτ, gI_other (Or.inl (by omega)), gI_other (Or.inl (by omega)), gI_other (Or.inl (by omega)), gI_other (Or.inl (by omega))]
    simp only [gI_sI, if_true]
    repeat' split
    all_goals first | rfl | omega
  have e32 : gI τ1 57 32 = nI n := by rw [g76 32 (by omega), gI_other (Or.inr (by omega)), gI_other (Or.inr (by omega)), gI_other (Or.inr (by omega)), gI_other (Or.inr (by omega)), gI_same]
  have e30 : gI τ1 57 30 = 0 := by rw [g76 30 (by omega), gI_other (Or.inr (by omega)), gI_other (Or.inr (by omega)), gI_other (Or.inr (by omega)), gI_same]
  have e33 : gI τ1 57 33 = nI 0 := by rw [g76 33 (by omega), gI_other (Or.inr (by omega)), gI_other (Or.inr (by omega)), gI_same]; rfl
  have e37 : gI τ1 57 37 = 0 := by rw [g76 37 (by omega), gI_other (Or.inr (by omega)), gI_same]
  have e24 : gI τ1 57 24 = nI 0 := by rw [g76 24 (by omega), gI_same]; rfl
  have hM : txM t n τ1 := ⟨hn, ht, e32, fun i hi => by rw [f1.2.1 77 i (by unfold cMr; omega)]; exact h77 i hi⟩
  obtain ⟨τ2, k1, k2, k3⟩ := s_step hM (Nat.zero_le _) e33
  rw [k1, Option.bind_some]
  have hs := sk_rng (t := t) (Nat.zero_le n)
  have hO : mO t n (sk t n 0) τ2 := ⟨hM.fr k2 (by simp [cSt]) (by simp [cSt]), k3, by rw [k2.2.1 57 37 (by simp [cSt])]; exact e37⟩
  have hk : bkM t n lim0 0 (fun _ => 0) (fun _ => 0) τ2 := by
    refine ⟨by rw [k2.2.1 57 24 (by simp [cSt])]; exact e24, fun k hk => ?_, fun r hr => absurd hr (Nat.not_lt_zero _)⟩
    rw [k2.2.1 76 k (by simp [cSt]), ← hτ]
    rcases (by omega : k = 0 ∨ k = 1 ∨ k = 2 ∨ k = 3) with q | q | q | q <;> subst q
    · rw [gI_other (Or.inr (by omega)), gI_other (Or.inr (by omega)), gI_other (Or.inr (by omega)), gI_same]; rfl
    · rw [gI_other (Or.inr (by omega)), gI_other (Or.inr (by omega)), gI_same]; rfl
    · rw [gI_other (Or.inr (by omega)), gI_same]; rfl
    · rw [gI_same]; rfl
  obtain ⟨τ3, w1, w2, w3, w4⟩ := s_rdM (n + 1) aN (sk t n 0) τ2 lim0 0 (fun _ => 0) (fun _ => 0) (by omega) (by show n - sk t n 0 + 1 < 1000000; omega) hs.2 vD0 hk hO
  rw [← hr] at w3 w4
  refine ⟨τ3, w1, f1.tr ((k2.mono (fun a k q => Or.inl (cNe_Mr (cSt_Ne q)))).tr (w2.mono (fun a k q => Or.inl q))), ?_, w3, w4⟩
  rw [w2.2.1 57 30 (by unfold cMr; omega), k2.2.1 57 30 (by simp [cSt])]
  exact e30
end RU
