/-! ===== the abstract heap: cells by their place since the law began; ints, longs and references apart ===== -/
abbrev aSt : Type := (Nat → Nat → Int32) × (Nat → Nat → Int64) × (Nat → Nat → Option Nat) × Nat
def gI (σ : aSt) : Nat → Nat → Int32 := σ.1
def gL (σ : aSt) : Nat → Nat → Int64 := σ.2.1
def gR (σ : aSt) : Nat → Nat → Option Nat := σ.2.2.1
def gN (σ : aSt) : Nat := σ.2.2.2
def sI (σ : aSt) (a k : Nat) (v : Int32) : aSt := (fun x => if x = a then upd (σ.1 a) k v else σ.1 x, σ.2.1, σ.2.2.1, σ.2.2.2)
def sL (σ : aSt) (a k : Nat) (v : Int64) : aSt := (σ.1, fun x => if x = a then vp_updL (σ.2.1 a) k v else σ.2.1 x, σ.2.2.1, σ.2.2.2)
def sR (σ : aSt) (a k : Nat) (v : Option Nat) : aSt := (σ.1, σ.2.1, fun x => if x = a then va_up (σ.2.2.1 a) k v else σ.2.2.1 x, σ.2.2.2)
def sC (σ : aSt) (a sp b dp n : Nat) : aSt := (fun x => if x = b then va_cpy (σ.1 a) (σ.1 b) sp dp n else σ.1 x, σ.2.1, σ.2.2.1, σ.2.2.2)
def sN (σ : aSt) : aSt := (fun x => if x = σ.2.2.2 then (fun _ => 0) else σ.1 x, fun x => if x = σ.2.2.2 then (fun _ => 0) else σ.2.1 x, fun x => if x = σ.2.2.2 then (fun _ => none) else σ.2.2.1 x, σ.2.2.2 + 1)
theorem gI_sI (σ : aSt) (a k : Nat) (v : Int32) (b j : Nat) : gI (sI σ a k v) b j = if b = a then (if j = k then v else gI σ a j) else gI σ b j := by
  unfold gI sI upd
  by_cases h : b = a <;> simp [h]
theorem gI_sIr (σ : aSt) (a k : Nat) (v : Int32) (b : Nat) : gI (sI σ a k v) b = if b = a then upd (gI σ a) k v else gI σ b := rfl
theorem gL_sI (σ : aSt) (a k : Nat) (v : Int32) : gL (sI σ a k v) = gL σ := rfl
theorem gR_sI (σ : aSt) (a k : Nat) (v : Int32) : gR (sI σ a k v) = gR σ := rfl
theorem gN_sI (σ : aSt) (a k : Nat) (v : Int32) : gN (sI σ a k v) = gN σ := rfl
theorem gL_sL (σ : aSt) (a k : Nat) (v : Int64) (b j : Nat) : gL (sL σ a k v) b j = if b = a then (if j = k then v else gL σ a j) else gL σ b j := by
  unfold gL sL vp_updL
  by_cases h : b = a <;> simp [h]
theorem gL_sLr (σ : aSt) (a k : Nat) (v : Int64) (b : Nat) : gL (sL σ a k v) b = if b = a then vp_updL (gL σ a) k v else gL σ b := rfl
theorem gI_sL (σ : aSt) (a k : Nat) (v : Int64) : gI (sL σ a k v) = gI σ := rfl
theorem gR_sL (σ : aSt) (a k : Nat) (v : Int64) : gR (sL σ a k v) = gR σ := rfl
theorem gN_sL (σ : aSt) (a k : Nat) (v : Int64) : gN (sL σ a k v) = gN σ := rfl
theorem gR_sR (σ : aSt) (a k : Nat) (v : Option Nat) (b j : Nat) : gR (sR σ a k v) b j = if b = a then (if j = k then v else gR σ a j) else gR σ b j := by
  unfold gR sR va_up
  by_cases h : b = a <;> simp [h]
theorem gR_sRr (σ : aSt) (a k : Nat) (v : Option Nat) (b : Nat) : gR (sR σ a k v) b = if b = a then va_up (gR σ a) k v else gR σ b := rfl
theorem gI_sR (σ : aSt) (a k : Nat) (v : Option Nat) : gI (sR σ a k v) = gI σ := rfl
theorem gL_sR (σ : aSt) (a k : Nat) (v : Option Nat) : gL (sR σ a k v) = gL σ := rfl
theorem gN_sR (σ : aSt) (a k : Nat) (v : Option Nat) : gN (sR σ a k v) = gN σ := rfl
theorem gI_sC (σ : aSt) (a sp b dp n x : Nat) : gI (sC σ a sp b dp n) x = if x = b then va_cpy (gI σ a) (gI σ b) sp dp n else gI σ x := rfl
theorem gL_sC (σ : aSt) (a sp b dp n : Nat) : gL (sC σ a sp b dp n) = gL σ := rfl
theorem gR_sC (σ : aSt) (a sp b dp n : Nat) : gR (sC σ a sp b dp n) = gR σ := rfl
theorem gN_sC (σ : aSt) (a sp b dp n : Nat) : gN (sC σ a sp b dp n) = gN σ := rfl
theorem gI_sN (σ : aSt) (x : Nat) : gI (sN σ) x = if x = gN σ then (fun _ => 0) else gI σ x := rfl
theorem gL_sN (σ : aSt) (x : Nat) : gL (sN σ) x = if x = gN σ then (fun _ => 0) else gL σ x := rfl
theorem gR_sN (σ : aSt) (x : Nat) : gR (sN σ) x = if x = gN σ then (fun _ => none) else gR σ x := rfl
theorem gN_sN (σ : aSt) : gN (sN σ) = gN σ + 1 := rfl
/-! the shape: kinds 0 to 12 are the classes of vwCl; 13 int[], 14 byte[], 15 long[], 16 Sheet[], 17 Payment[] -/
def aShp : List (Nat × Nat) := [(11, 0), (16, 8), (3, 0), (17, 1000), (17, 120), (10, 0), (13, 601), (13, 601), (13, 601), (14, 600), (6, 0), (2, 0), (8, 0), (13, 4), (13, 12), (13, 12), (13, 48), (13, 48), (13, 48), (17, 120), (7, 0), (13, 10), (13, 20), (13, 240), (13, 240), (15, 120), (5, 0), (13, 120), (13, 120), (13, 121), (13, 4096), (1, 0), (0, 0), (13, 16), (8, 0), (13, 4), (13, 12), (13, 12), (13, 48), (13, 48), (13, 48), (9, 0), (13, 120), (9, 0), (13, 120), (9, 0), (13, 120), (9, 0), (13, 120), (9, 0), (13, 120), (9, 0), (13, 120), (9, 0), (13, 120), (9, 0), (13, 120), (12, 0), (13, 8), (13, 8), (13, 960), (13, 120), (13, 120), (13, 120), (13, 120), (13, 120), (13, 120), (13, 120), (13, 120), (13, 10), (13, 12), (13, 12), (13, 144), (13, 12), (13, 12), (13, 144), (13, 4), (13, 600), (13, 120), (13, 120), (13, 2), (13, 120), (15, 1681), (13, 16)]
def aFtab : List (List Nat) := [[3, 0, 2, 0, 0], [0, 0, 0, 0], [2, 3, 0, 3, 3, 3, 3, 3], [3, 3, 0, 0], [0, 0, 0, 0, 0, 0, 0, 0], [0, 0, 0, 0, 1, 3, 3, 3, 3, 0, 3, 0, 3], [0, 0, 3, 2, 0, 0, 0], [3, 0, 3, 0, 0, 0, 0], [3, 0, 3, 3, 3, 3, 3], [3, 0, 0, 0], [3, 3, 3, 0, 3, 0], [3, 3, 3, 3, 3, 3, 3, 3, 2, 0, 0], [0, 0, 3, 3, 3, 0, 3, 3, 3, 3, 3, 3, 3, 3, 0, 0, 0, 0, 0, 3, 0, 3, 3, 3, 0, 3, 3, 3, 3, 3, 0, 0, 0, 0, 0, 0, 0, 0, 0, 3, 0, 3, 3, 3, 3, 3, 0]]
def aKtab : List (List Nat) := [[33, 0, 0, 0, 0], [0, 0, 0, 0], [0, 19, 0, 2, 20, 23, 24, 25], [3, 4, 0, 0], [0, 0, 0, 0, 0, 0, 0, 0], [0, 0, 0, 0, 0, 2, 11, 27, 28, 0, 29, 0, 30], [0, 0, 5, 0, 0, 0, 0], [21, 0, 22, 0, 0, 0, 0], [1, 0, 2, 3, 4, 5, 6], [1, 0, 0, 0], [6, 7, 8, 0, 9, 0], [1, 2, 5, 10, 11, 26, 31, 32, 0, 0, 0], [0, 0, 58, 59, 60, 0, 61, 62, 63, 64, 65, 66, 67, 68, 0, 0, 0, 0, 0, 69, 0, 70, 71, 72, 0, 73, 74, 75, 76, 77, 0, 0, 0, 0, 0, 0, 0, 0, 0, 78, 0, 79, 80, 81, 82, 83, 0]]
def aSh (a : Nat) : Nat := (aShp.getD a (4, 0)).1
def aLn (a : Nat) : Nat := (aShp.getD a (4, 0)).2
def aFt (c k : Nat) : Nat := (aFtab.getD c []).getD k 0
def aNf (c : Nat) : Nat := (aFtab.getD c []).length
def aKr (c k a : Nat) : Nat := if c = 8 ∨ c = 9 then a + (aKtab.getD c []).getD k 0 else (aKtab.getD c []).getD k 0
theorem aSh_pay {a : Nat} (h : 84 ≤ a) : aSh a = 4 := by
  have h1 : aShp[a]? = none := List.getElem?_eq_none (Nat.le_trans (by decide : aShp.length ≤ 84) h)
  simp [aSh, List.getD, h1]
/-- the place of the world: where it begins, the classes' numbers and slots, the array classes, the words' constant -/
abbrev aZ : Type := Nat × va_G × (ClassId × ClassId × ClassId × ClassId × ClassId) × Nat × Nat
def aA (Z : aZ) : Nat → Prop := fun q => Z.1 ≤ q
def aTys (Z : aZ) : List (ClassId × FieldType) := [(Z.2.2.1.1, .int), (Z.2.2.1.2.1, .byte), (Z.2.2.1.2.2.1, .long), (Z.2.2.1.2.2.2.1, .object RX9), (Z.2.2.1.2.2.2.2, .object RX4)]
def aOf (Z : aZ) (r : Option Nat) : Option Nat := r.map (fun i => Z.1 + i)
def aFv (md : Bool) (Z : aZ) (σ : aSt) (c a k : Nat) : Value :=
  if aFt c k = 0 then .int (gI σ a k) else if aFt c k = 1 then .long (gL σ a k) else if aFt c k = 3 ∧ md = true then .ref (Z.1 + aKr c k a) else va_rf (aOf Z (gR σ a k))
def aCell (md : Bool) (Z : aZ) (σ : aSt) (a : Nat) : va_E :=
  if aSh a = 13 then .inl (Z.2.2.1.1, aLn a, .inl (gI σ a))
  else if aSh a = 14 then .inl (Z.2.2.1.2.1, aLn a, .inl (gI σ a))
  else if aSh a = 15 then .inl (Z.2.2.1.2.2.1, aLn a, .inr (.inl (gL σ a)))
  else if aSh a = 16 then .inl (Z.2.2.1.2.2.2.1, aLn a, .inr (.inr (.inr (.inr (fun j => if md = true then some (Z.1 + (41 + 2 * j)) else aOf Z (gR σ a j))))))
  else if aSh a = 17 then .inl (Z.2.2.1.2.2.2.2, aLn a, .inr (.inr (.inr (.inr (fun j => aOf Z (gR σ a j))))))
  else .inr (aSh a, (List.range (aNf (aSh a))).map (aFv md Z σ (aSh a) a))
def aWs (md : Bool) (Z : aZ) (σ : aSt) : va_W := (List.range (gN σ)).map (fun i => (Z.1 + i, aCell md Z σ i))
theorem aWs_get {md : Bool} {Z : aZ} {σ : aSt} {i : Nat} (h : i < gN σ) : (aWs md Z σ)[i]? = some (Z.1 + i, aCell md Z σ i) := by
  simp [aWs, List.getElem?_map, List.getElem?_range h]
theorem aWs_set {md : Bool} {Z : aZ} {σ σ' : aSt} {i : Nat} {e : va_E} (h : i < gN σ) (hn : gN σ' = gN σ) (hi : aCell md Z σ' i = e) (hj : ∀ j, j ≠ i → aCell md Z σ' j = aCell md Z σ j) : (aWs md Z σ).set i (Z.1 + i, e) = aWs md Z σ' := by
  apply List.ext_getElem?
  intro k
  rw [List.getElem?_set]
  by_cases hk : i = k
  · subst hk
    have hl : i < (aWs md Z σ).length := by simp [aWs, h]
    rw [if_pos rfl, if_pos hl, aWs_get (by rw [hn]; exact h), hi]
  · rw [if_neg hk]
    by_cases h2 : k < gN σ
    · rw [aWs_get h2, aWs_get (by rw [hn]; exact h2), hj k (fun q => hk q.symm)]
    · rw [List.getElem?_eq_none (by simp [aWs]; omega), List.getElem?_eq_none (by simp [aWs]; omega)]
theorem aWs_push {md : Bool} {Z : aZ} {σ σ' : aSt} {e : va_E} (hn : gN σ' = gN σ + 1) (hi : aCell md Z σ' (gN σ) = e) (hj : ∀ j, j < gN σ → aCell md Z σ' j = aCell md Z σ j) : aWs md Z σ ++ [(Z.1 + gN σ, e)] = aWs md Z σ' := by
  unfold aWs
  rw [hn, List.range_succ, List.map_append]
  congr 1
  · apply List.map_congr_left
    intro j hjm
    rw [hj j (List.mem_range.mp hjm)]
  · simp [hi]
theorem aCell_ext {md : Bool} {Z : aZ} {σ σ' : aSt} {j : Nat} (h1 : gI σ' j = gI σ j) (h2 : gL σ' j = gL σ j) (h3 : gR σ' j = gR σ j) : aCell md Z σ' j = aCell md Z σ j := by
  have hf : aFv md Z σ' (aSh j) j = aFv md Z σ (aSh j) j := by
    funext k
    simp only [aFv, h1, h2, h3]
  simp only [aCell, h1, h2, h3, hf]
theorem aCell_obj {md : Bool} {Z : aZ} {σ : aSt} {a c : Nat} (h : aSh a = c) (hc : c < 13) : aCell md Z σ a = .inr (c, (List.range (aNf c)).map (aFv md Z σ c a)) := by
  subst h
  unfold aCell
  rw [if_neg (by omega), if_neg (by omega), if_neg (by omega), if_neg (by omega), if_neg (by omega)]
theorem aCell_i {md : Bool} {Z : aZ} {σ : aSt} {a : Nat} (h : aSh a = 13) : aCell md Z σ a = .inl (Z.2.2.1.1, aLn a, .inl (gI σ a)) := by
  unfold aCell
  rw [if_pos h]
theorem aCell_b {md : Bool} {Z : aZ} {σ : aSt} {a : Nat} (h : aSh a = 14) : aCell md Z σ a = .inl (Z.2.2.1.2.1, aLn a, .inl (gI σ a)) := by
  unfold aCell
  rw [if_neg (by omega), if_pos h]
theorem aCell_l {md : Bool} {Z : aZ} {σ : aSt} {a : Nat} (h : aSh a = 15) : aCell md Z σ a = .inl (Z.2.2.1.2.2.1, aLn a, .inr (.inl (gL σ a))) := by
  unfold aCell
  rw [if_neg (by omega), if_neg (by omega), if_pos h]
theorem aCell_s {md : Bool} {Z : aZ} {σ : aSt} {a : Nat} (h : aSh a = 16) : aCell md Z σ a = .inl (Z.2.2.1.2.2.2.1, aLn a, .inr (.inr (.inr (.inr (fun j => if md = true then some (Z.1 + (41 + 2 * j)) else aOf Z (gR σ a j)))))) := by
  unfold aCell
  rw [if_neg (by omega), if_neg (by omega), if_neg (by omega), if_pos h]
theorem aCell_p {md : Bool} {Z : aZ} {σ : aSt} {a : Nat} (h : aSh a = 17) : aCell md Z σ a = .inl (Z.2.2.1.2.2.2.2, aLn a, .inr (.inr (.inr (.inr (fun j => aOf Z (gR σ a j)))))) := by
  unfold aCell
  rw [if_neg (by omega), if_neg (by omega), if_neg (by omega), if_neg (by omega), if_pos h]
/-- the fields of an object with one of them changed -/
theorem aFs_set {n k : Nat} {f g : Nat → Value} {v : Value} (hg : g k = v) (hne : ∀ j, j ≠ k → g j = f j) : ((List.range n).map f).set k v = (List.range n).map g := by
  apply List.ext_getElem?
  intro j
  rw [List.getElem?_set]
  by_cases hk : k = j
  · subst hk
    by_cases h : k < n
    · simp [h, hg]
    · simp [h]
  · rw [if_neg hk]
    by_cases h : j < n
    · simp [List.getElem?_map, List.getElem?_range h, hne j (fun q => hk q.symm)]
    · simp [List.getElem?_map, List.getElem?_eq_none (by simp; omega : (List.range n).length ≤ j)]
theorem aFs_get {n k : Nat} {f : Nat → Value} (h : k < n) : ((List.range n).map f)[k]? = some (f k) := by
  simp [List.getElem?_map, List.getElem?_range h]
theorem aFs_len {n : Nat} {f : Nat → Value} : ((List.range n).map f).length = n := by simp
