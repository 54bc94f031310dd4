/-! ===== the class gathers a payment's features, whole ===== -/
section GB
variable {g : Nat → Nat → Int32} {N R b : Nat} {τ : aSt}
theorem s_begin (h : cG g N R b τ) {p : Nat} (hp : p < N) : ∃ τ', f_X7_begin (84 + p) (some b) τ = some ((), τ') ∧ Fr (fun a _ => a = 20 ∨ a = 21 ∨ a = 22) τ τ' ∧ gL τ' = gL τ ∧ gI τ' 20 1 = 0 ∧ gI τ' 20 3 = xBit (g 64 p) ∧ gI τ' 20 4 = g 62 p ∧ gI τ' 20 5 = g 57 15 ∧ gI τ' 20 6 = g 57 16 ∧ gI τ' 21 1 = g 66 p ∧ gI τ' 21 2 = g 62 p - g 62 p / 24 * 24 ∧ gI τ' 21 3 = 0 ∧ gI τ' 21 4 = 0 ∧ gI τ' 21 6 = 0 ∧ gI τ' 21 9 = 0 ∧ ∀ w, w < 20 → gI τ' 22 w = 0 := by
  have hg : 84 ≤ gN τ := by rw [h.gn]; omega
  obtain ⟨τ1, a1, a2, a3, a4⟩ := s_fill 21 0 τ rfl (by decide) (by omega)
  obtain ⟨τ2, b1, b2, b3, b4⟩ := s_fill 22 0 τ1 rfl (by decide) (by rw [a2.1]; omega)
  have h2 : cG g N R b τ2 := (h.fr a2 (fun a k q => cC_row h.hb (by omega))).fr b2 (fun a k q => cC_row h.hb (by omega))
  obtain ⟨p0, p1, p2, p3, p4, p5, p6⟩ := h2.pay hp
  obtain ⟨l0, l1, -, -⟩ := h2.lim
  have okb := h2.okb
  have bk := bk_ok b h.hb
  have hb2 : b + 1 < gN τ2 := by have := okb.2; rcases h.hb with q | q <;> (rw [h2.gn]; omega)
  have o : ∀ (σ : aSt) (a j k : Nat) (x : Int32), a < 84 → gI (sI σ a j x) (84 + p) k = gI σ (84 + p) k := fun σ a j k x q => gI_other (Or.inl (by omega))
  have ob : ∀ (σ : aSt) (j k : Nat) (x : Int32), gI (sI σ 20 j x) (b + 1) k = gI σ (b + 1) k := fun σ j k x => gI_other (Or.inl (by rcases h.hb with q | q <;> omega))
  have ob2 : ∀ (σ : aSt) (j k : Nat) (x : Int32), gI (sI σ 21 j x) (b + 1) k = gI σ (b + 1) k := fun σ j k x => gI_other (Or.inl (by rcases h.hb with q | q <;> omega))
  unfold f_X7_begin
  rw [a1]
  simp only [Option.bind_some]
  rw [b1]
  simp only [Option.bind_some]
  rw [if_pos (h2.ok hp), o _ _ _ _ _ (by omega), o _ _ _ _ _ (by omega), p5, p1, o _ _ _ _ _ (by omega), p3]
  have v1 : gI (sI τ2 21 1 (g 66 p)) 21 2 = gI τ2 21 2 := gI_other (Or.inr (by omega))
  generalize hy : g 62 p - g 62 p / 24 * 24 = y2
  generalize hT : sI (sI (sI τ2 21 1 (g 66 p)) 21 2 y2) 20 3 ((1 : Int32) <<< (g 64 p &&& 31)) = T
  have gT : gN T = gN τ2 := by rw [← hT]; rfl
  have hT1 : gI T (84 + p) 1 = g 62 p := by rw [← hT, o _ _ _ _ _ (by omega), o _ _ _ _ _ (by omega), o _ _ _ _ _ (by omega), p1]
  have hTb : ∀ k, gI T (b + 1) k = gI τ2 (b + 1) k := fun k => by rw [← hT, ob, ob2, ob2]
  have c0 : (0 : Int32).toNatClampNeg = 0 := rfl
  have c1 : (1 : Int32).toNatClampNeg = 1 := rfl
  have ib0 : inB 0 (aLn (b + 1)) := by rw [bk.2.2.2.2.2.2.2.1]; decide
  have ib1 : inB 1 (aLn (b + 1)) := by rw [bk.2.2.2.2.2.2.2.1]; decide
  unfold f_X7_begin_49 f_X7_begin_72
  simp only [oC_some]
  rw [if_pos (show aSh (84 + p) = 4 ∧ 84 + p < gN (sI T 20 1 0) from ⟨(h2.ok hp).1, by show 84 + p < gN T; rw [gT]; exact (h2.ok hp).2⟩), o _ _ _ _ _ (by omega), hT1]
  rw [if_pos (show aSh b = 8 ∧ b < gN (sI (sI T 20 1 0) 20 4 (g 62 p)) from ⟨okb.1, by show b < gN T; rw [gT]; exact okb.2⟩), if_pos (show aSh (b + 1) = 13 ∧ b + 1 < gN (sI (sI T 20 1 0) 20 4 (g 62 p)) from ⟨bk.2.1, by show b + 1 < gN T; rw [gT]; exact hb2⟩), if_pos ib0, ob, ob, c0, hTb, l0]
  rw [if_pos (show aSh b = 8 ∧ b < gN (sI (sI (sI T 20 1 0) 20 4 (g 62 p)) 20 5 (g 57 15)) from ⟨okb.1, by show b < gN T; rw [gT]; exact okb.2⟩), if_pos (show aSh (b + 1) = 13 ∧ b + 1 < gN (sI (sI (sI T 20 1 0) 20 4 (g 62 p)) 20 5 (g 57 15)) from ⟨bk.2.1, by show b + 1 < gN T; rw [gT]; exact hb2⟩), if_pos ib1, ob, ob, ob, c1, hTb, l1]
  have ot : ∀ (j k : Nat) (x : Int32), j ≠ k → gI (sI (sI (sI (sI T 20 1 0) 20 4 (g 62 p)) 20 5 (g 57 15)) 20 6 (g 57 16)) 21 k = gI T 21 k := fun j k x q => by
    rw [gI_other (Or.inl (by omega)), gI_other (Or.inl (by omega)), gI_other (Or.inl (by omega)), gI_other (Or.inl (by omega))]
  have ot1 : ∀ k, gI (sI (sI (sI (sI T 20 1 0) 20 4 (g 62 p)) 20 5 (g 57 15)) 20 6 (g 57 16)) 21 k = gI T 21 k := fun k => ot (k + 1) k 0 (by omega)
  have T21 : ∀ k, k ≠ 1 → k ≠ 2 → k < 10 → gI T 21 k = 0 := fun k q1 q2 q3 => by
    rw [← hT, gI_other (Or.inl (by omega)), gI_other (Or.inr q2), gI_other (Or.inr q1), b2.2.1 21 k (by omega)]
    exact a4 k q3
  refine ⟨_, rfl, ?_, ?_, ?_, ?_, ?_, ?_, ?_, ?_, ?_, ?_, ?_, ?_, ?_, fun w hw => ?_⟩
  · have f0 : Fr (fun a _ => a = 20 ∨ a = 21 ∨ a = 22) τ T := by
      rw [← hT]
      refine Fr.sI (Fr.sI (Fr.sI ((a2.mono (fun a k q => by omega)).tr (b2.mono (fun a k q => by omega))) ?_) ?_) ?_ <;> simp
    refine Fr.sI (Fr.sI (Fr.sI (Fr.sI f0 ?_) ?_) ?_) ?_ <;> simp
  · show gL T = gL τ
    rw [← hT]
    show gL τ2 = gL τ
    rw [b3, a3]
  · rw [gI_other (Or.inr (by omega)), gI_other (Or.inr (by omega)), gI_other (Or.inr (by omega)), gI_same]
  · rw [gI_other (Or.inr (by omega)), gI_other (Or.inr (by omega)), gI_other (Or.inr (by omega)), gI_other (Or.inr (by omega)), ← hT, gI_same]
    rfl
  · rw [gI_other (Or.inr (by omega)), gI_other (Or.inr (by omega)), gI_same]
  · rw [gI_other (Or.inr (by omega)), gI_same]
  · rw [gI_same]
  · rw [ot1, ← hT, gI_other (Or.inl (by omega)), gI_other (Or.inr (by omega)), gI_same]
  · rw [ot1, ← hT, gI_other (Or.inl (by omega)), gI_same]
  · rw [ot1, T21 3 (by omega) (by omega) (by omega)]
  · rw [ot1, T21 4 (by omega) (by omega) (by omega)]
  · rw [ot1, T21 6 (by omega) (by omega) (by omega)]
  · rw [ot1, T21 9 (by omega) (by omega) (by omega)]
  · rw [gI_other (Or.inl (by omega)), gI_other (Or.inl (by omega)), gI_other (Or.inl (by omega)), gI_other (Or.inl (by omega)), ← hT, gI_other (Or.inl (by omega)), gI_other (Or.inl (by omega)), gI_other (Or.inl (by omega))]
    exact b4 w hw
end GB
