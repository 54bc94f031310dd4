theorem okC.inv {σ : aSt} (hC : okC σ) : Inv σ := by
  obtain ⟨stC_n, stC_sheets, stC_one, stC_two, stC_tags, -, -⟩ := hC
  obtain ⟨a1, a2, a3, a4, a5, a6, a7, a8, a9, a10, a11, a12⟩ := stC_one
  obtain ⟨b1, b2, b3, b4, b5, b6, b7, b8, b9, b10, b11, b12, b13, b14⟩ := stC_two
  refine ⟨fun s hs => Or.inl (stC_sheets s hs), ⟨a1, 0, by omega, a2⟩, ⟨0, by omega, a3, a4, fun i h => absurd h (Nat.not_lt_zero i)⟩, ⟨a5, a6, a7, a8, ⟨50, by omega, a9⟩, ⟨5, by omega, a10⟩⟩, ⟨0, by omega, a11, a12, fun i h => absurd h (Nat.not_lt_zero i)⟩, 0, 12, 0, Or.inl ⟨rfl, b1, b2⟩, ?_, ?_, ?_⟩
  · exact ⟨by omega, stC_n, b3, b4, fun n h => absurd h (Nat.not_lt_zero n), fun n h => absurd h (Nat.not_lt_zero n), fun n m h => absurd h (Nat.not_lt_zero n), fun t ht => Or.inl ⟨stC_tags t ht, fun n h => absurd h (Nat.not_lt_zero n)⟩, fun n h => absurd h (Nat.not_lt_zero n), fun i j _ h => absurd h (Nat.not_lt_zero j)⟩
  · exact ⟨by omega, b5, b6, ⟨100, 50, 10, 20, by omega, by omega, by omega, by omega, by omega, by omega, b7, b8, b9, b10, b11, b12, b13, b14⟩, fun n h => absurd h (Nat.not_lt_zero n)⟩
  · intro n kn h
    exact absurd h (Nat.not_lt_zero n)
theorem arrV_same {cA : ClassId} {n : Nat} {f g : Nat → Value} (h : ∀ j, j < n → f j = g j) : arrV cA n f = arrV cA n g := by
  have e : (fun j : Fin n => f j.val) = fun j : Fin n => g j.val := funext fun j => h j.1 j.2
  unfold arrV
  rw [e]
theorem cell_flip {σ : aSt} (hC : okC σ) {Z : aZ} {a : Nat} (ha : a < 84) (h1 : aSh a ≠ 16) : aCell true Z σ a = aCell false Z σ a := by
  unfold aCell
  rw [if_neg h1, if_neg h1]
  have hf : ∀ k, k < aNf (aSh a) → aFv true Z σ (aSh a) a k = aFv false Z σ (aSh a) a k := by
    intro k hk
    unfold aFv
    by_cases h3 : aFt (aSh a) k = 3
    · have h := hC.2.2.2.2.2.1 a ha k hk h3
      rw [if_neg (by omega), if_neg (by omega), if_pos ⟨h3, rfl⟩, if_neg (by omega), if_neg (by omega), if_neg (by simp), h]
      rfl
    · rw [if_neg (fun q => h3 q.1 : ¬ (aFt (aSh a) k = 3 ∧ true = true)), if_neg (fun q => h3 q.1 : ¬ (aFt (aSh a) k = 3 ∧ false = true))]
  have hm : (List.range (aNf (aSh a))).map (aFv true Z σ (aSh a) a) = (List.range (aNf (aSh a))).map (aFv false Z σ (aSh a) a) := List.map_congr_left (fun k hk => hf k (List.mem_range.mp hk))
  rw [hm]
theorem at_flip {σ : aSt} (hC : okC σ) {Z : aZ} {cl : List vw_C} {a : Nat} {H : Heap} (ha : a < 84) (h : va_at Z.2.1 cl (Z.1 + a, aCell false Z σ a) H) : va_at Z.2.1 cl (Z.1 + a, aCell true Z σ a) H := by
  by_cases h1 : aSh a = 16
  · obtain ⟨e1, e2⟩ := stC_kinds a ha h1
    rw [aCell_s h1] at h ⊢
    unfold va_at at h ⊢
    simp only at h ⊢
    rw [h, vp_cell_q, vp_cell_q]
    congr 1
    apply arrV_same
    intro j hj
    rw [e2] at hj
    rw [e1, hC.2.2.2.2.2.2 j hj]
    rfl
  · rw [cell_flip hC ha h1]
    exact h
theorem aH_flip {σ : aSt} (hC : okC σ) {Z : aZ} {s : State} {H : Heap} {locs : List Loc} (h : aH false Z σ s H locs) : aH true Z σ s H locs := by
  obtain ⟨z1, z2, z3, z4, z5⟩ := h
  have hlt : ∀ {md : Bool} {k : Nat} {q : Nat × va_E}, (aWs md Z σ)[k]? = some q → k < 84 := fun {md k q} hq => by
    have h := (List.getElem?_eq_some_iff.mp hq).1
    rw [aWs, List.length_map, List.length_range, hC.1] at h
    exact h
  have hg : ∀ {md : Bool} {k : Nat}, k < 84 → (aWs md Z σ)[k]? = some (Z.1 + k, aCell md Z σ k) := fun hk => aWs_get (by rw [hC.1]; exact hk)
  refine ⟨z1, fun _ => by rw [hC.1]; exact Nat.le_refl 84, ?_, ⟨?_, ?_⟩, z5⟩
  · intro k q hq
    have hk := hlt hq
    rw [hg hk] at hq
    cases hq
    exact at_flip hC hk (z3 k _ (hg hk))
  · intro i j p q hp hq e
    have hi := hlt hp
    have hj := hlt hq
    rw [hg hi] at hp
    rw [hg hj] at hq
    cases hp
    cases hq
    exact Nat.add_left_cancel e
  · intro k q hq
    have hk := hlt hq
    rw [hg hk] at hq
    cases hq
    exact z4.2 k (Z.1 + k, aCell false Z σ k) (hg hk)
