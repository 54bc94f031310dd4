/-! ===== sums in another order; bits ===== -/
theorem fSum_list (g : Nat → Int32) : ∀ n, fSum g n = (List.range n).foldl (fun a i => a + g i) 0
  | 0 => rfl
  | n + 1 => by rw [List.range_succ, List.foldl_append, ← fSum_list g n]; rfl
theorem fOr_list (g : Nat → Int32) : ∀ n, fOr g n = (List.range n).foldl (fun a i => a ||| g i) 0
  | 0 => rfl
  | n + 1 => by rw [List.range_succ, List.foldl_append, ← fOr_list g n]; rfl
theorem pm_perm {N : Nat} {o : Nat → Nat} (h1 : ∀ i, i < N → o i < N) (h2 : ∀ i j, i < N → j < N → o i = o j → i = j) : ((List.range N).map o).Perm (List.range N) := by
  have d1 : ((List.range N).map o).Nodup := by
    rw [List.nodup_iff_pairwise_ne, List.pairwise_map]
    refine List.Pairwise.imp_of_mem ?_ (List.nodup_iff_pairwise_ne.mp (List.nodup_range (n := N)))
    intro a b ha hb hab hz
    exact hab (h2 a b (List.mem_range.mp ha) (List.mem_range.mp hb) hz)
  have hs : ∀ a, a ∈ (List.range N).map o → a ∈ List.range N := by
    intro a ha
    obtain ⟨i, hi, rfl⟩ := List.mem_map.mp ha
    exact List.mem_range.mpr (h1 i (List.mem_range.mp hi))
  refine (List.perm_ext_iff_of_nodup d1 List.nodup_range).mpr (fun a => ⟨hs a, fun ha => ?_⟩)
  refine Classical.byContradiction (fun hn => ?_)
  have d2 : (a :: (List.range N).map o).Nodup := List.nodup_cons.mpr ⟨hn, d1⟩
  have := List.Nodup.length_le_of_subset d2 (l₂ := List.range N) (fun x hx => by
    rcases List.mem_cons.mp hx with rfl | hx
    · exact ha
    · exact hs x hx)
  simp at this
  omega
theorem pm_onto {N : Nat} {o : Nat → Nat} (h1 : ∀ i, i < N → o i < N) (h2 : ∀ i j, i < N → j < N → o i = o j → i = j) {p : Nat} (hp : p < N) : ∃ i, i < N ∧ o i = p := by
  have := (pm_perm h1 h2).mem_iff (a := p) |>.mpr (List.mem_range.mpr hp)
  obtain ⟨i, hi, e⟩ := List.mem_map.mp this
  exact ⟨i, List.mem_range.mp hi, e⟩
theorem fSum_perm {N : Nat} {o : Nat → Nat} (h1 : ∀ i, i < N → o i < N) (h2 : ∀ i j, i < N → j < N → o i = o j → i = j) (g : Nat → Int32) : fSum (fun i => g (o i)) N = fSum g N := by
  rw [fSum_list, fSum_list, ← (pm_perm h1 h2).foldl_eq' (f := fun a i => a + g i) (fun x _ y _ z => by rw [Int32.add_assoc, Int32.add_comm (g x), ← Int32.add_assoc]) 0, List.foldl_map]
theorem fOr_perm {N : Nat} {o : Nat → Nat} (h1 : ∀ i, i < N → o i < N) (h2 : ∀ i j, i < N → j < N → o i = o j → i = j) (g : Nat → Int32) : fOr (fun i => g (o i)) N = fOr g N := by
  rw [fOr_list, fOr_list, ← (pm_perm h1 h2).foldl_eq' (f := fun a i => a ||| g i) (fun x _ y _ z => by rw [Int32.or_assoc, Int32.or_comm (g x), ← Int32.or_assoc]) 0, List.foldl_map]
theorem fSum_congr {g g' : Nat → Int32} : ∀ {n : Nat}, (∀ i, i < n → g i = g' i) → fSum g n = fSum g' n
  | 0, _ => rfl
  | n + 1, h => by
    show fSum g n + g n = fSum g' n + g' n
    rw [fSum_congr (fun i hi => h i (by omega)), h n (by omega)]
theorem fOr_congr {g g' : Nat → Int32} : ∀ {n : Nat}, (∀ i, i < n → g i = g' i) → fOr g n = fOr g' n
  | 0, _ => rfl
  | n + 1, h => by
    show fOr g n ||| g n = fOr g' n ||| g' n
    rw [fOr_congr (fun i hi => h i (by omega)), h n (by omega)]
/-- nothing comes behind the m-th -/
theorem fSum_cut {g : Nat → Int32} {m : Nat} : ∀ {n : Nat}, m ≤ n → (∀ i, m ≤ i → i < n → g i = 0) → fSum g n = fSum g m
  | 0, h, _ => by rw [show m = 0 by omega]
  | n + 1, h, hz => by
    by_cases e : m = n + 1
    · rw [e]
    · show fSum g n + g n = _
      rw [fSum_cut (by omega) (fun i q1 q2 => hz i q1 (by omega)), hz n (by omega) (by omega), Int32.add_zero]
theorem fOr_cut {g : Nat → Int32} {m : Nat} : ∀ {n : Nat}, m ≤ n → (∀ i, m ≤ i → i < n → g i = 0) → fOr g n = fOr g m
  | 0, h, _ => by rw [show m = 0 by omega]
  | n + 1, h, hz => by
    by_cases e : m = n + 1
    · rw [e]
    · show fOr g n ||| g n = _
      rw [fOr_cut (by omega) (fun i q1 q2 => hz i q1 (by omega)), hz n (by omega) (by omega), Int32.or_zero]
/-- ORDER is without repetition, and whole -/
theorem ord_inj {σ : aSt} {N : Nat} (h : pPay σ N) : ∀ i j, i < N → j < N → ord σ i = ord σ j → i = j := by
  obtain ⟨h1, h2, h3, h4, h5, h6, h7, h8, h9, h10⟩ := h
  intro i j hi hj e
  rcases Nat.lt_trichotomy i j with q | q | q
  · have := h10 i j q hj
    rw [e] at this
    unfold bef at this
    omega
  · exact q
  · have := h10 j i q hi
    rw [e] at this
    unfold bef at this
    omega
theorem ord_lt {σ : aSt} {N : Nat} (h : pPay σ N) : ∀ i, i < N → ord σ i < N := fun i hi => (h.2.2.2.2.2.2.2.2.1 i hi).1
theorem ord_onto {σ : aSt} {N : Nat} (h : pPay σ N) {p : Nat} (hp : p < N) : ∃ i, i < N ∧ ord σ i = p := pm_onto (ord_lt h) (ord_inj h) hp
/-- who is before whom, by places -/
theorem ord_bef {σ : aSt} {N i j : Nat} (h : pPay σ N) (hi : i < N) (hj : j < N) : bef σ (ord σ i) (ord σ j) ↔ i < j := by
  constructor
  · intro q
    rcases Nat.lt_trichotomy i j with z | z | z
    · exact z
    · subst z
      unfold bef at q
      omega
    · have := h.2.2.2.2.2.2.2.2.2 j i z hi
      unfold bef at q this
      omega
  · exact fun q => h.2.2.2.2.2.2.2.2.2 i j q hj
/-! bits of small numbers -/
theorem nb_and (a b : Nat) : nI a &&& nI b = nI (a &&& b) := by
  apply Int32.toBitVec_inj.1
  show BitVec.ofNat 32 a &&& BitVec.ofNat 32 b = BitVec.ofNat 32 (a &&& b)
  apply BitVec.eq_of_getLsbD_eq
  intro i hi
  simp [hi]
theorem nb_or (a b : Nat) : nI a ||| nI b = nI (a ||| b) := by
  apply Int32.toBitVec_inj.1
  show BitVec.ofNat 32 a ||| BitVec.ofNat 32 b = BitVec.ofNat 32 (a ||| b)
  apply BitVec.eq_of_getLsbD_eq
  intro i hi
  simp [hi]
theorem nb_xor (a b : Nat) : nI a ^^^ nI b = nI (a ^^^ b) := by
  apply Int32.toBitVec_inj.1
  show BitVec.ofNat 32 a ^^^ BitVec.ofNat 32 b = BitVec.ofNat 32 (a ^^^ b)
  apply BitVec.eq_of_getLsbD_eq
  intro i hi
  simp [hi]
theorem nb_sh : ∀ n, n < 32 → ((nI n &&& 31).toBitVec.smod 32).toNat = n := by decide +kernel
theorem nb_bit {w : Nat} (h : w < 31) : (1 : Int32) <<< (nI w &&& 31) = nI (2 ^ w) := by
  rw [show (1 : Int32) = nI 1 from rfl, pk_shlN _ w (nb_sh w (by omega)) (by
    rw [Nat.one_mul]
    exact Nat.pow_lt_pow_right (by omega) (by omega)), Nat.one_mul]
theorem nb_get {x w : Nat} (hx : x < 2147483648) (h : w < 31) : (nI x >>> (nI w &&& 31)) &&& 1 = nI (x / 2 ^ w % 2) := by
  rw [pk_shrN hx _ w (nb_sh w (by omega)), show (1 : Int32) = nI 1 from rfl, nb_and]
  congr 1
  exact Nat.and_one_is_mod _
theorem nb_tb (x w : Nat) : (x / 2 ^ w % 2 = 1) ↔ x.testBit w = true := by
  rw [Nat.testBit_eq_decide_div_mod_eq]
  simp
theorem xHas_nI {x w : Nat} (hx : x < 2147483648) (h : w < 31) : xHas (nI x) (nI w) = x.testBit w := by
  unfold xHas
  rw [nb_get hx h]
  have hm : x / 2 ^ w % 2 < 2 := Nat.mod_lt _ (by omega)
  cases hb : x.testBit w with
  | true =>
    rw [(nb_tb x w).mpr hb]
    rfl
  | false =>
    have : x / 2 ^ w % 2 = 0 := by
      rcases (by omega : x / 2 ^ w % 2 = 0 ∨ x / 2 ^ w % 2 = 1) with q | q
      · exact q
      · rw [(nb_tb x w).mp q] at hb; cases hb
    rw [this]
    rfl
