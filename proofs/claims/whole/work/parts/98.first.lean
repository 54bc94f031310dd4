/-! ===== the first state: behind both constructors ===== -/
def st0 : aSt := (fun _ _ => 0, fun _ _ => 0, fun _ _ => none, 0)
def stB : aSt := match f_X11_init_0 (sN st0) with
  | some o => o.2
  | none => st0
def stC : aSt := match f_X12_init_0 (sN stB) with
  | some o => o.2
  | none => st0
theorem stB_is : (f_X11_init_0 (sN st0)).isSome = true := by decide +kernel
theorem stB_eq : f_X11_init_0 (sN st0) = some ((), stB) := by
  have h := stB_is
  unfold stB
  cases e : f_X11_init_0 (sN st0) with
  | none => rw [e] at h; cases h
  | some o => rfl
theorem stB_n : gN stB = 57 := by decide +kernel
theorem stC_is : (f_X12_init_0 (sN stB)).isSome = true := by decide +kernel
theorem stC_eq : f_X12_init_0 (sN stB) = some ((), stC) := by
  have h := stC_is
  unfold stC
  cases e : f_X12_init_0 (sN stB) with
  | none => rw [e] at h; cases h
  | some o => rfl
theorem stC_n : gN stC = 84 := by decide +kernel
theorem stC_sheets : ∀ s, s < 8 → (gI stC (41 + 2 * s) 1 = 0 ∧ gI stC 58 s = -1) := by decide +kernel
theorem stC_one : gI stC 2 3 = gI stC 57 14 ∧ gI stC 57 14 = nI 0 ∧ gI stC 5 3 = nI 0 ∧ gI stC 57 30 = nI 0 ∧ gI stC 0 10 = gI stC 57 1 ∧ gI stC 0 9 = gI stC 57 31 ∧ gI stC 26 0 = gI stC 80 0 ∧ gI stC 26 1 = gI stC 80 1 ∧ gI stC 80 0 = nI 50 ∧ gI stC 80 1 = nI 5 ∧ gI stC 32 1 = nI 0 ∧ gI stC 57 46 = nI 0 := by decide +kernel
theorem stC_two : gR stC 11 0 = some 12 ∧ gR stC 0 8 = some 34 ∧ gI stC 57 5 = nI 0 ∧ gI stC 2 2 = nI 0 ∧ gI stC 57 20 = nI 0 ∧ gI stC 12 1 = nI 0 ∧ gI stC 57 15 = nI 100 ∧ gI stC 57 16 = nI 50 ∧ gI stC 57 17 = nI 10 ∧ gI stC 57 18 = nI 20 ∧ gI stC 13 0 = nI 100 ∧ gI stC 13 1 = nI 50 ∧ gI stC 13 2 = nI 10 ∧ gI stC 13 3 = nI 20 := by decide +kernel
theorem stC_tags : ∀ t, t < 1000 → gR stC 3 t = none := by decide +kernel
theorem stC_fin : ∀ a, a < 84 → ∀ k, k < aNf (aSh a) → aFt (aSh a) k = 3 → gR stC a k = some (aKr (aSh a) k a) := by decide +kernel
theorem stC_shs : ∀ j, j < 8 → gR stC 1 j = some (41 + 2 * j) := by decide +kernel
theorem stC_kinds : ∀ a, a < 84 → aSh a = 16 → a = 1 ∧ aLn a = 8 := by decide +kernel
def okC (σ : aSt) : Prop := gN σ = 84 ∧ (∀ s, s < 8 → (gI σ (41 + 2 * s) 1 = 0 ∧ gI σ 58 s = -1)) ∧
  (gI σ 2 3 = gI σ 57 14 ∧ gI σ 57 14 = nI 0 ∧ gI σ 5 3 = nI 0 ∧ gI σ 57 30 = nI 0 ∧ gI σ 0 10 = gI σ 57 1 ∧ gI σ 0 9 = gI σ 57 31 ∧ gI σ 26 0 = gI σ 80 0 ∧ gI σ 26 1 = gI σ 80 1 ∧ gI σ 80 0 = nI 50 ∧ gI σ 80 1 = nI 5 ∧ gI σ 32 1 = nI 0 ∧ gI σ 57 46 = nI 0) ∧
  (gR σ 11 0 = some 12 ∧ gR σ 0 8 = some 34 ∧ gI σ 57 5 = nI 0 ∧ gI σ 2 2 = nI 0 ∧ gI σ 57 20 = nI 0 ∧ gI σ 12 1 = nI 0 ∧ gI σ 57 15 = nI 100 ∧ gI σ 57 16 = nI 50 ∧ gI σ 57 17 = nI 10 ∧ gI σ 57 18 = nI 20 ∧ gI σ 13 0 = nI 100 ∧ gI σ 13 1 = nI 50 ∧ gI σ 13 2 = nI 10 ∧ gI σ 13 3 = nI 20) ∧
  (∀ t, t < 1000 → gR σ 3 t = none) ∧ (∀ a, a < 84 → ∀ k, k < aNf (aSh a) → aFt (aSh a) k = 3 → gR σ a k = some (aKr (aSh a) k a)) ∧ (∀ j, j < 8 → gR σ 1 j = some (41 + 2 * j))
theorem st_first : ∃ σB σC : aSt, f_X11_init_0 (sN st0) = some ((), σB) ∧ gN σB = 57 ∧ f_X12_init_0 (sN σB) = some ((), σC) ∧ okC σC := ⟨stB, stC, stB_eq, stB_n, stC_eq, ⟨stC_n, stC_sheets, stC_one, stC_two, stC_tags, stC_fin, stC_shs⟩⟩
