/-! ===== bestSetting: the reference tries all; bestSetting ===== -/
section BM
variable {g : Nat → Nat → Int32} {N R b : Nat} {vd : Nat → Int32} {c0 c1 : Int32}
/-- the k-th threshold tried, and whether it counts -/
def vK (g : Nat → Nat → Int32) (N R k : Nat) : Nat := if k = 0 then 0 else sNo g N R (k - 1) + 1
def okK (vd : Nat → Int32) (k : Nat) : Prop := k = 0 ∨ ¬ vd (k - 1) = -1000000
def ok2 (g : Nat → Nat → Int32) (N R : Nat) (vd : Nat → Int32) (l m : Nat) : Prop := TT g N R vd l ∧ TT g N R vd m ∧ l ≤ m
theorem vK_TT {k : Nat} (hk : k ≤ N) (h : okK vd k) : TT g N R vd (vK g N R k) := by
  unfold vK
  by_cases e : k = 0
  · rw [if_pos e]; exact Or.inl rfl
  · rw [if_neg e]
    rcases h with h | h
    · exact absurd h e
    · exact Or.inr ⟨k - 1, by omega, h, rfl⟩
/-- what the reference keeps while it tries -/
def mS (g : Nat → Nat → Int32) (N R : Nat) (vd : Nat → Int32) (c0 c1 : Int32) (τ : aSt) : Prop := Ag g τ ∧ (∀ n, n < N → gI τ 67 n = vd n) ∧ (∀ n, n < N → ¬ vd n = -1000000 → gI τ 78 n = xS g N R n) ∧ gI τ 80 0 = c0 ∧ gI τ 80 1 = c1
theorem s_try148 (hw : gW g N R) (hg : cGood g N c0) (r1 : 0 ≤ c1.toInt ∧ c1.toInt ≤ 100000) (hv3 : cVd N vd) {τ : aSt} (hm : mS g N R vd c0 c1 τ) (rec41 : Int32 → Int64 → Int32 → Int32 → Int32 → aSt → Option (Int64 × aSt)) (rec73 : Int32 → Int64 → Int32 → Int32 → Int32 → Int32 → Int32 → aSt → Option (Int64 × aSt)) (x1 x6 x8 : Int32) {l m l2 m2 : Nat} (h1 : ok2 g N R vd l m) (h2 : ok2 g N R vd l2 m2) : ∃ l' m', f_X12_bestSetting_148 rec41 rec73 x1 (wI (PR g N R vd c0 c1 l m)) (nI l) (nI m) x6 (nI l2) x8 (nI m2) 1 τ = rec73 x1 (wI (PR g N R vd c0 c1 l' m')) (nI l') (nI m') x6 (nI l2) (x8 + 1) τ ∧ ok2 g N R vd l' m' ∧ lx g N R vd c0 c1 l' m' l m ∧ lx g N R vd c0 c1 l' m' l2 m2 := by
  have hN := hw.hN
  have b1 := TT_le hw h1.1
  have b2 := TT_le hw h1.2.1
  have b3 := TT_le hw h2.1
  have b4 := TT_le hw h2.2.1
  obtain ⟨hA, hv, hh, hc0, hc1⟩ := hm
  have rp : ∀ a c, -48000000 ≤ PR g N R vd c0 c1 a c ∧ PR g N R vd c0 c1 a c ≤ 48000000 := fun a c => by
    have q1 := (part_rng (R := R) (vd := vd) hN hg r1 (nI a)).1
    have q2 := (part_rng (R := R) (vd := vd) hN hg r1 (nI c)).2
    unfold PR bp
    omega
  have p1 := rp l m
  have p2 := rp l2 m2
  have eco : f_X12_costOf (nI l2) (nI m2) τ = some (wI (PR g N R vd c0 c1 l2 m2), τ) := by
    rw [s_costOf hw hA hv hh hc0 hc1 (nI l2) (nI m2), xCo_eq hg hv3 ((nI_leI (by omega) (by omega)).mpr h2.2.2)]
    rfl
  unfold f_X12_bestSetting_148 f_X12_bestSetting_200 f_X12_bestSetting_211
  rw [if_neg (by decide), eco, Option.bind_some]
  simp only [lc_lt, lc_eq]
  have refl : ∀ a c, lx g N R vd c0 c1 a c a c := fun a c => Or.inr ⟨rfl, Or.inr ⟨rfl, Nat.le_refl _⟩⟩
  have new : lx g N R vd c0 c1 l2 m2 l m → ∃ l' m', rec73 x1 (wI (PR g N R vd c0 c1 l2 m2)) (nI l2) (nI m2) x6 (nI l2) (x8 + 1) τ = rec73 x1 (wI (PR g N R vd c0 c1 l' m')) (nI l') (nI m') x6 (nI l2) (x8 + 1) τ ∧ ok2 g N R vd l' m' ∧ lx g N R vd c0 c1 l' m' l m ∧ lx g N R vd c0 c1 l' m' l2 m2 := fun q => ⟨l2, m2, rfl, h2, q, refl _ _⟩
  have old : lx g N R vd c0 c1 l m l2 m2 → ∃ l' m', rec73 x1 (wI (PR g N R vd c0 c1 l m)) (nI l) (nI m) x6 (nI l2) (x8 + 1) τ = rec73 x1 (wI (PR g N R vd c0 c1 l' m')) (nI l') (nI m') x6 (nI l2) (x8 + 1) τ ∧ ok2 g N R vd l' m' ∧ lx g N R vd c0 c1 l' m' l m ∧ lx g N R vd c0 c1 l' m' l2 m2 := fun q => ⟨l, m, rfl, h1, refl _ _, q⟩
  by_cases c1' : PR g N R vd c0 c1 l2 m2 < PR g N R vd c0 c1 l m
  · rw [if_pos ((wI_lt (by omega) (by omega) (by omega) (by omega)).mpr c1')]
    exact new (Or.inl c1')
  rw [if_neg (fun q => c1' ((wI_lt (by omega) (by omega) (by omega) (by omega)).mp q))]
  by_cases c2 : PR g N R vd c0 c1 l2 m2 = PR g N R vd c0 c1 l m
  case neg =>
    rw [if_neg (fun q => c2 ((wI_eq (by omega) (by omega) (by omega) (by omega)).mp q))]
    exact old (Or.inl (by omega))
  rw [if_pos ((wI_eq (by omega) (by omega) (by omega) (by omega)).mpr c2)]
  by_cases c3 : l2 < l
  · rw [if_pos ((nI_ltI (by omega) (by omega)).mpr c3)]
    exact new (Or.inr ⟨c2, Or.inl c3⟩)
  rw [if_neg (fun q => c3 ((nI_ltI (by omega) (by omega)).mp q))]
  by_cases c4 : l2 = l
  · rw [if_pos (by rw [c4])]
    by_cases c5 : m ≤ m2
    · rw [if_pos ((nI_leI (by omega) (by omega)).mpr c5)]
      exact old (Or.inr ⟨c2.symm, Or.inr ⟨c4.symm, c5⟩⟩)
    · rw [if_neg (fun q => c5 ((nI_leI (by omega) (by omega)).mp q))]
      exact new (Or.inr ⟨c2, Or.inr ⟨c4, by omega⟩⟩)
  · rw [if_neg (fun q => c4 (nI_inj (by omega) (by omega) q))]
    exact old (Or.inr ⟨c2.symm, Or.inl (by omega)⟩)
theorem s_try73 (hw : gW g N R) (hg : cGood g N c0) (r1 : 0 ≤ c1.toInt ∧ c1.toInt ≤ 100000) (hv3 : cVd N vd) {τ : aSt} (hm : mS g N R vd c0 c1 τ) (rec41 : Int32 → Int64 → Int32 → Int32 → Int32 → aSt → Option (Int64 × aSt)) (x1 x7 : Int32) {K : Nat} (hK : K ≤ N) (h7 : okK vd K → x7 = nI (vK g N R K)) : ∀ (f k l m : Nat), k ≤ N + 1 → N + 1 < k + f → ok2 g N R vd l m → ∃ l' m', f_X12_bestSetting_73 rec41 f x1 (wI (PR g N R vd c0 c1 l m)) (nI l) (nI m) (nI K - 1) x7 (nI k - 1) τ = rec41 x1 (wI (PR g N R vd c0 c1 l' m')) (nI l') (nI m') (nI K - 1 + 1) τ ∧ ok2 g N R vd l' m' ∧ lx g N R vd c0 c1 l' m' l m ∧ ∀ kk, k ≤ kk → kk ≤ N → okK vd K → okK vd kk → vK g N R K ≤ vK g N R kk → lx g N R vd c0 c1 l' m' (vK g N R K) (vK g N R kk) := by
  have hN := hw.hN
  have refl : ∀ a c, lx g N R vd c0 c1 a c a c := fun a c => Or.inr ⟨rfl, Or.inr ⟨rfl, Nat.le_refl _⟩⟩
  have hm0 := hm
  obtain ⟨hA, hv, hh, hc0, hc1⟩ := hm0
  intro f
  induction f with
  | zero => intro k l m h1 h2; omega
  | succ f ih =>
    intro k l m h1 h2 hok
    show ∃ l' m', f_X12_bestSetting_73_b rec41 (f_X12_bestSetting_73 rec41 f) x1 (wI (PR g N R vd c0 c1 l m)) (nI l) (nI m) (nI K - 1) x7 (nI k - 1) τ = _ ∧ _
    unfold f_X12_bestSetting_73_b
    rw [hA.c (by omega), hw.n5]
    by_cases e : k = N + 1
    · subst e
      rw [nI_s1, if_pos (Int32.le_refl _)]
      exact ⟨l, m, rfl, hok, refl _ _, fun kk q1 q2 => by omega⟩
    have hk : k ≤ N := by omega
    have e1 : nI k - 1 + 1 = nI (k + 1) - 1 := by
      rw [nI_s1]
      exact Int32.sub_add_cancel _ _
    -- on with the next
    have skip : ¬ (okK vd K ∧ okK vd k ∧ vK g N R K ≤ vK g N R k) → ∃ l' m', f_X12_bestSetting_73 rec41 f x1 (wI (PR g N R vd c0 c1 l m)) (nI l) (nI m) (nI K - 1) x7 (nI k - 1 + 1) τ = rec41 x1 (wI (PR g N R vd c0 c1 l' m')) (nI l') (nI m') (nI K - 1 + 1) τ ∧ ok2 g N R vd l' m' ∧ lx g N R vd c0 c1 l' m' l m ∧ ∀ kk, k ≤ kk → kk ≤ N → okK vd K → okK vd kk → vK g N R K ≤ vK g N R kk → lx g N R vd c0 c1 l' m' (vK g N R K) (vK g N R kk) := by
      intro hn
      rw [e1]
      obtain ⟨l', m', a1, a2, a3, a4⟩ := ih (k + 1) l m (by omega) (by omega) hok
      refine ⟨l', m', a1, a2, a3, fun kk q1 q2 q3 q4 q5 => ?_⟩
      by_cases ek : kk = k
      · rw [ek] at q4 q5
        exact absurd ⟨q3, q4, q5⟩ hn
      · exact a4 kk (by omega) q2 q3 q4 q5
    have s147 : ∀ t, f_X12_bestSetting_147 rec41 (f_X12_bestSetting_73 rec41 f) x1 (wI (PR g N R vd c0 c1 l m)) (nI l) (nI m) (nI K - 1) x7 (nI k - 1) t τ = f_X12_bestSetting_73 rec41 f x1 (wI (PR g N R vd c0 c1 l m)) (nI l) (nI m) (nI K - 1) x7 (nI k - 1 + 1) τ := fun t => by
      unfold f_X12_bestSetting_147 f_X12_bestSetting_148 f_X12_bestSetting_211
      rw [if_pos rfl]
    have go : okK vd K → okK vd k → vK g N R K ≤ vK g N R k → ∃ l' m', f_X12_bestSetting_143 rec41 (f_X12_bestSetting_73 rec41 f) x1 (wI (PR g N R vd c0 c1 l m)) (nI l) (nI m) (nI K - 1) x7 (nI k - 1) (nI (vK g N R k)) τ = rec41 x1 (wI (PR g N R vd c0 c1 l' m')) (nI l') (nI m') (nI K - 1 + 1) τ ∧ ok2 g N R vd l' m' ∧ lx g N R vd c0 c1 l' m' l m ∧ ∀ kk, k ≤ kk → kk ≤ N → okK vd K → okK vd kk → vK g N R K ≤ vK g N R kk → lx g N R vd c0 c1 l' m' (vK g N R K) (vK g N R kk) := by
      intro o1 o2 o3
      unfold f_X12_bestSetting_143
      rw [h7 o1]
      obtain ⟨l1, m1, a1, a2, a3, a4⟩ := s_try148 hw hg r1 hv3 hm rec41 (f_X12_bestSetting_73 rec41 f) x1 (nI K - 1) (nI k - 1) hok ⟨vK_TT hK o1, vK_TT hk o2, o3⟩
      rw [a1, e1]
      have ihk := ih (k + 1) l1 m1 (by omega) (by omega) a2
      rw [h7 o1] at ihk
      obtain ⟨l2, m2, b1, b2, b3, b4⟩ := ihk
      refine ⟨l2, m2, b1, b2, lx_tr b3 a3, fun kk q1 q2 q3 q4 q5 => ?_⟩
      by_cases ek : kk = k
      · rw [ek]
        exact lx_tr b3 a4
      · exact b4 kk (by omega) q2 q3 q4 q5
    -- the outer one counts?
    have out : ∀ (t : Int32), (okK vd K → okK vd k → ∃ l' m', f_X12_bestSetting_126 rec41 (f_X12_bestSetting_73 rec41 f) x1 (wI (PR g N R vd c0 c1 l m)) (nI l) (nI m) (nI K - 1) x7 (nI k - 1) t τ = rec41 x1 (wI (PR g N R vd c0 c1 l' m')) (nI l') (nI m') (nI K - 1 + 1) τ ∧ ok2 g N R vd l' m' ∧ lx g N R vd c0 c1 l' m' l m ∧ ∀ kk, k ≤ kk → kk ≤ N → okK vd K → okK vd kk → vK g N R K ≤ vK g N R kk → lx g N R vd c0 c1 l' m' (vK g N R K) (vK g N R kk)) → (¬ okK vd k → f_X12_bestSetting_126 rec41 (f_X12_bestSetting_73 rec41 f) x1 (wI (PR g N R vd c0 c1 l m)) (nI l) (nI m) (nI K - 1) x7 (nI k - 1) t τ = f_X12_bestSetting_73 rec41 f x1 (wI (PR g N R vd c0 c1 l m)) (nI l) (nI m) (nI K - 1) x7 (nI k - 1 + 1) τ) → ∃ l' m', (if nI K - 1 < 0 then f_X12_bestSetting_126 rec41 (f_X12_bestSetting_73 rec41 f) x1 (wI (PR g N R vd c0 c1 l m)) (nI l) (nI m) (nI K - 1) x7 (nI k - 1) t τ else (if inB (nI K - 1) 120 then (if gI τ 67 (nI K - 1).toNatClampNeg = -1000000 then f_X12_bestSetting_147 rec41 (f_X12_bestSetting_73 rec41 f) x1 (wI (PR g N R vd c0 c1 l m)) (nI l) (nI m) (nI K - 1) x7 (nI k - 1) t τ else f_X12_bestSetting_126 rec41 (f_X12_bestSetting_73 rec41 f) x1 (wI (PR g N R vd c0 c1 l m)) (nI l) (nI m) (nI K - 1) x7 (nI k - 1) t τ) else none)) = rec41 x1 (wI (PR g N R vd c0 c1 l' m')) (nI l') (nI m') (nI K - 1 + 1) τ ∧ ok2 g N R vd l' m' ∧ lx g N R vd c0 c1 l' m' l m ∧ ∀ kk, k ≤ kk → kk ≤ N → okK vd K → okK vd kk → vK g N R K ≤ vK g N R kk → lx g N R vd c0 c1 l' m' (vK g N R K) (vK g N R kk) := by
      intro t y1 y2
      by_cases K0 : K = 0
      · rw [if_pos (by rw [K0]; decide)]
        by_cases o2 : okK vd k
        · exact y1 (Or.inl K0) o2
        · rw [y2 o2]
          exact skip (fun z => o2 z.2.1)
      · obtain ⟨K', rfl⟩ : ∃ K', K = K' + 1 := ⟨K - 1, by omega⟩
        rw [nI_s1] at y1 y2 s147 skip ⊢
        rw [if_neg (nI_neg (by omega)), if_pos (ix_in (by omega) (by omega)), ix_cl (by omega), hv K' (by omega)]
        by_cases c : vd K' = -1000000
        · rw [if_pos c, s147]
          exact skip (fun z => by
            rcases z.1 with w | w
            · omega
            · rw [Nat.add_sub_cancel] at w
              exact w c)
        · rw [if_neg c]
          by_cases o2 : okK vd k
          · exact y1 (Or.inr (by rw [Nat.add_sub_cancel]; exact c)) o2
          · rw [y2 o2]
            exact skip (fun z => o2 z.2.1)
    by_cases k0 : k = 0
    · subst k0
      rw [if_neg (show ¬ nI N ≤ nI 0 - 1 from fun q => by
        rw [pi_le, pi_nI (by omega), show (nI 0 - 1).toInt = -1 from rfl] at q
        omega), if_neg (show ¬ (0 : Int32) ≤ nI 0 - 1 by decide)]
      unfold f_X12_bestSetting_100
      have v0 : vK g N R 0 = 0 := rfl
      by_cases c : (0 : Int32) < x7
      · rw [if_pos c, s147]
        refine skip (fun z => ?_)
        have := z.2.2
        rw [v0] at this
        rw [h7 z.1, show vK g N R K = 0 by omega] at c
        exact absurd c (by decide)
      · rw [if_neg c]
        refine out 0 (fun o1 o2 => ?_) (fun o2 => absurd (Or.inl rfl) o2)
        unfold f_X12_bestSetting_126
        rw [if_pos (by decide)]
        refine go o1 o2 ?_
        rw [h7 o1] at c
        rw [v0]
        refine Nat.le_of_eq (Classical.byContradiction (fun hne => c ?_))
        have := TT_le hw (vK_TT (g := g) (N := N) (R := R) hK o1)
        exact (nI_ltI (a := 0) (by omega) (by omega)).mpr (by omega)
    · obtain ⟨k', rfl⟩ : ∃ k', k = k' + 1 := ⟨k - 1, by omega⟩
      rw [nI_s1] at skip s147 go out ⊢
      rw [if_neg (fun q => by rw [nI_leI (by omega) (by omega)] at q; omega), if_pos (nI_ge0 (by omega)), if_pos (ix_in (by omega) (by omega)), ix_cl (by omega)]
      unfold f_X12_bestSetting_100
      have vk : vK g N R (k' + 1) = sNo g N R k' + 1 := rfl
      have e78 : okK vd (k' + 1) → gI τ 78 k' + 1 = nI (vK g N R (k' + 1)) := fun o2 => by
        rcases o2 with w | w
        · omega
        · rw [Nat.add_sub_cancel] at w
          rw [hh k' (by omega) w, (xS_eq hw k').1, nI_1, vk]
      by_cases c : gI τ 78 k' + 1 < x7
      · rw [if_pos c, s147]
        refine skip (fun z => ?_)
        have t1 := TT_le hw (vK_TT (g := g) (N := N) (R := R) hK z.1)
        have t2 := TT_le hw (vK_TT (g := g) (N := N) (R := R) hk z.2.1)
        rw [e78 z.2.1, h7 z.1, nI_ltI (by omega) (by omega)] at c
        omega
      · rw [if_neg c]
        refine out _ (fun o1 o2 => ?_) (fun o2 => ?_)
        · unfold f_X12_bestSetting_126
          rw [if_neg (nI_neg (by omega)), if_pos (ix_in (by omega) (by omega)), ix_cl (by omega), hv k' (by omega), if_neg (by
            rcases o2 with w | w
            · omega
            · rw [Nat.add_sub_cancel] at w
              exact w), e78 o2]
          refine go o1 o2 ?_
          have t1 := TT_le hw (vK_TT (g := g) (N := N) (R := R) hK o1)
          have t2 := TT_le hw (vK_TT (g := g) (N := N) (R := R) hk o2)
          rw [e78 o2, h7 o1, nI_ltI (by omega) (by omega)] at c
          omega
        · unfold f_X12_bestSetting_126
          rw [if_neg (nI_neg (by omega)), if_pos (ix_in (by omega) (by omega)), ix_cl (by omega), hv k' (by omega), if_pos (Classical.byContradiction (fun w => o2 (Or.inr (by rw [Nat.add_sub_cancel]; exact w)))), s147]
/-- what is told -/
def xBs (g : Nat → Nat → Int32) (N R : Nat) (vd : Nat → Int32) (c0 c1 : Int32) (l m j : Nat) : Int64 := if j = 0 then (nI l).toInt64 else if j = 1 then (nI m).toInt64 else wI (PR g N R vd c0 c1 l m)
theorem s_try41 (hw : gW g N R) (hg : cGood g N c0) (r1 : 0 ≤ c1.toInt ∧ c1.toInt ≤ 100000) (hv3 : cVd N vd) {τ : aSt} (hm : mS g N R vd c0 c1 τ) {j : Nat} (hj : j < 3) : ∀ (f K l m : Nat), K ≤ N + 1 → N + 1 < K + f → ok2 g N R vd l m → ∃ l' m', f_X12_bestSetting_41 f (nI j) (wI (PR g N R vd c0 c1 l m)) (nI l) (nI m) (nI K - 1) τ = some (xBs g N R vd c0 c1 l' m' j, τ) ∧ ok2 g N R vd l' m' ∧ lx g N R vd c0 c1 l' m' l m ∧ ∀ KK kk, K ≤ KK → KK ≤ N → kk ≤ N → okK vd KK → okK vd kk → vK g N R KK ≤ vK g N R kk → lx g N R vd c0 c1 l' m' (vK g N R KK) (vK g N R kk) := by
  have hN := hw.hN
  have refl : ∀ a c, lx g N R vd c0 c1 a c a c := fun a c => Or.inr ⟨rfl, Or.inr ⟨rfl, Nat.le_refl _⟩⟩
  have hm0 := hm
  obtain ⟨hA, hv, hh, hc0, hc1⟩ := hm0
  intro f
  induction f with
  | zero => intro K l m h1 h2; omega
  | succ f ih =>
    intro K l m h1 h2 hok
    show ∃ l' m', f_X12_bestSetting_41_b (f_X12_bestSetting_41 f) (nI j) (wI (PR g N R vd c0 c1 l m)) (nI l) (nI m) (nI K - 1) τ = _ ∧ _
    unfold f_X12_bestSetting_41_b
    rw [hA.c (by omega), hw.n5]
    by_cases e : K = N + 1
    · subst e
      rw [nI_s1, if_pos (Int32.le_refl _)]
      refine ⟨l, m, ?_, hok, refl _ _, fun KK kk q1 q2 => by omega⟩
      unfold f_X12_bestSetting_245 xBs
      rcases (by omega : j = 0 ∨ j = 1 ∨ j = 2) with q | q | q <;> subst q
      · rw [if_pos (show nI 0 = 0 from rfl), if_pos rfl]
      · rw [if_neg (by decide), if_pos (show nI 1 = 1 from rfl), if_neg (by decide), if_pos rfl]
      · rw [if_neg (by decide), if_neg (by decide), if_neg (by decide), if_neg (by decide)]
    have hK : K ≤ N := by omega
    have e1 : nI K - 1 + 1 = nI (K + 1) - 1 := by
      rw [nI_s1]
      exact Int32.sub_add_cancel _ _
    have row : ∀ x7 : Int32, (okK vd K → x7 = nI (vK g N R K)) → ∃ l' m', f_X12_bestSetting_68 (f_X12_bestSetting_41 f) (nI j) (wI (PR g N R vd c0 c1 l m)) (nI l) (nI m) (nI K - 1) x7 τ = some (xBs g N R vd c0 c1 l' m' j, τ) ∧ ok2 g N R vd l' m' ∧ lx g N R vd c0 c1 l' m' l m ∧ ∀ KK kk, K ≤ KK → KK ≤ N → kk ≤ N → okK vd KK → okK vd kk → vK g N R KK ≤ vK g N R kk → lx g N R vd c0 c1 l' m' (vK g N R KK) (vK g N R kk) := by
      intro x7 h7
      unfold f_X12_bestSetting_68
      obtain ⟨l1, m1, a1, a2, a3, a4⟩ := s_try73 hw hg r1 hv3 hm (f_X12_bestSetting_41 f) (nI j) x7 hK h7 aN 0 l m (by omega) (by show N + 1 < 0 + 1000000; omega) hok
      rw [show f_X12_bestSetting_73 (f_X12_bestSetting_41 f) aN (nI j) (wI (PR g N R vd c0 c1 l m)) (nI l) (nI m) (nI K - 1) x7 (-1) τ = _ from a1, e1]
      obtain ⟨l2, m2, b1, b2, b3, b4⟩ := ih (K + 1) l1 m1 (by omega) (by omega) a2
      refine ⟨l2, m2, b1, b2, lx_tr b3 a3, fun KK kk q1 q2 q3 q4 q5 q6 => ?_⟩
      by_cases ek : KK = K
      · rw [ek] at q4 q6 ⊢
        exact lx_tr b3 (a4 kk (Nat.zero_le _) q3 q4 q5 q6)
      · exact b4 KK kk (by omega) q2 q3 q4 q5 q6
    by_cases K0 : K = 0
    · subst K0
      rw [if_neg (show ¬ nI N ≤ nI 0 - 1 from fun q => by
        rw [pi_le, pi_nI (by omega), show (nI 0 - 1).toInt = -1 from rfl] at q
        omega), if_neg (show ¬ (0 : Int32) ≤ nI 0 - 1 by decide)]
      exact row 0 (fun _ => rfl)
    · obtain ⟨K', rfl⟩ : ∃ K', K = K' + 1 := ⟨K - 1, by omega⟩
      rw [nI_s1] at row ⊢
      rw [if_neg (fun q => by rw [nI_leI (by omega) (by omega)] at q; omega), if_pos (nI_ge0 (by omega)), if_pos (ix_in (by omega) (by omega)), ix_cl (by omega)]
      refine row _ (fun o => ?_)
      rcases o with w | w
      · omega
      · rw [Nat.add_sub_cancel] at w
        rw [hh K' (by omega) w, (xS_eq hw K').1, nI_1]
        rfl
theorem TT_vK {x : Nat} (h : TT g N R vd x) : ∃ k, k ≤ N ∧ okK vd k ∧ vK g N R k = x := by
  rcases h with h | ⟨n, hn, hv, h⟩
  · exact ⟨0, Nat.zero_le _, Or.inl rfl, h.symm⟩
  · exact ⟨n + 1, by omega, Or.inr (by rw [Nat.add_sub_cancel]; exact hv), h.symm⟩
end BM
theorem op_bestSetting {σ : aSt} (h : Inv σ) (p1 : Int32) : Op (f_X11_bestSetting p1) (f_X12_bestSetting p1) σ := by
  obtain ⟨N, b, R, hw, hc, hca, hp, -⟩ := h.data
  have hA := Ag.self σ
  have hN := hw.hN
  by_cases c : 0 ≤ p1 ∧ p1 ≤ 2
  case neg =>
    refine ⟨-1000001, σ, sI σ 57 0 0, ?_, ?_, h.thr 0⟩
    · unfold f_X11_bestSetting
      rw [s_within, Option.bind_some]
      simp only [bI_0, decide_eq_false_iff_not]
      rw [if_pos c]
    · unfold f_X12_bestSetting
      rw [s_in 0 2 0 2 rfl rfl, Option.bind_some]
      simp only [bI_0, decide_eq_false_iff_not]
      rw [if_pos c]
  have c' := c
  obtain ⟨j, hj, rfl⟩ := ix_rng (N := 3) rfl rfl c'.1 c'.2
  have s3 : gI σ 26 0 = gI σ 80 0 := h.2.2.2.1.2.2.1
  have s4 : gI σ 26 1 = gI σ 80 1 := h.2.2.2.1.2.2.2.1
  obtain ⟨k0, hk0, ek0⟩ := h.2.2.2.1.2.2.2.2.1
  obtain ⟨k1, hk1, ek1⟩ := h.2.2.2.1.2.2.2.2.2
  have hg : cGood (vw σ) N (gI σ 80 0) := hw.good hk0 ek0
  have r1 : 0 ≤ (gI σ 80 1).toInt ∧ (gI σ 80 1).toInt ≤ 100000 := by rw [ek1, pi_nI (by omega)]; omega
  have hv : ∀ n, n < N → gI σ (84 + n) 7 = gI σ 67 n := fun n hn => (hp.2.2.2.2.2.1 n hn).2.2.2.2.2.2.2
  have hv3 : cVd N (fun n => gI σ 67 n) := fun n hn => (hp.2.2.2.2.1 n hn).2.2.2.2.2.2
  obtain ⟨σ1, l, m, a1, a2, a3, a4, a5, a6, a7⟩ := s_findBest (vd := fun n => gI σ 67 n) (c0 := gI σ 80 0) (c1 := gI σ 80 1) hw hg r1 ⟨hc, pCa.of hca⟩ hv s3 s4
  have hA1 : Ag (vw σ) σ1 := hA.fr a2 (fun a k q => by
    rcases q with q | q | q | q | q
    · exact cSl_pers q
    · rw [q]; simp [pers]
    · rw [q]; simp [pers]
    · rw [q]; simp [pers]
    · rw [q.1]; simp [pers])
  have f67 : ∀ n, gI (sI σ1 57 0 0) 67 n = gI σ 67 n := fun n => by rw [gI_other (Or.inl (by omega)), a2.2.1 67 n (by unfold cSl; omega)]
  obtain ⟨σ2, b1, b2, b3⟩ := s_findSc (vd := fun n => gI σ 67 n) hw hA1.th (fun n hn => f67 n)
  have hA2 : Ag (vw σ) σ2 := hA1.th.fr2 b2 (fun a k q => by rcases q with q | q <;> rw [q] <;> simp [scr])
  have g80 : ∀ j, gI σ2 80 j = gI σ 80 j := fun j => by rw [b2.2.1 80 j (by omega), gI_other (Or.inl (by omega)), a2.2.1 80 j (by unfold cSl; omega)]
  have hm : mS (vw σ) N R (fun n => gI σ 67 n) (gI σ 80 0) (gI σ 80 1) σ2 := ⟨hA2, fun n hn => by rw [b2.2.1 67 n (by omega)]; exact f67 n, b3, g80 0, g80 1⟩
  have hco := s_costOf (vd := fun n => gI σ 67 n) (c0 := gI σ 80 0) (c1 := gI σ 80 1) hw hm.1 hm.2.1 hm.2.2.1 hm.2.2.2.1 hm.2.2.2.2 0 0
  rw [xCo_eq hg hv3 (Int32.le_refl _)] at hco
  obtain ⟨l2, m2, d1, d2, d3, d4⟩ := s_try41 hw hg r1 hv3 hm hj aN 0 0 0 (by omega) (by show N + 1 < 0 + 1000000; omega) ⟨Or.inl rfl, Or.inl rfl, Nat.le_refl _⟩
  have hB : isB (vw σ) N R (fun n => gI σ 67 n) (gI σ 80 0) (gI σ 80 1) l2 m2 := by
    refine ⟨d2.1, d2.2.1, d2.2.2, fun l' m' q1 q2 q3 => ?_⟩
    obtain ⟨KK, e1, e2, rfl⟩ := TT_vK q1
    obtain ⟨kk, e3, e4, rfl⟩ := TT_vK q2
    exact d4 KK kk (Nat.zero_le _) e1 e3 e2 e4 q3
  obtain ⟨u1, u2⟩ := isB_u a4 hB
  refine ⟨xBs (vw σ) N R (fun n => gI σ 67 n) (gI σ 80 0) (gI σ 80 1) l m j, σ1, σ2, ?_, ?_, ?_⟩
  · unfold f_X11_bestSetting f_X11_bestSetting_56 xBs
    rw [s_within, Option.bind_some]
    simp only [bI_0, decide_eq_false_iff_not]
    rw [if_neg (not_not_intro c), a1, Option.bind_some, a5, a6, a7]
    rcases (by omega : j = 0 ∨ j = 1 ∨ j = 2) with q | q | q <;> subst q
    · rw [if_neg (by decide), if_pos (show nI 0 = 0 from rfl), if_pos rfl]
    · rw [if_neg (by decide), if_neg (by decide), if_neg (by decide), if_pos rfl]
    · rw [if_pos (show nI 2 = 2 from rfl), if_neg (by decide), if_neg (by decide)]
  · unfold f_X12_bestSetting
    rw [s_in 0 2 0 2 rfl rfl, Option.bind_some]
    simp only [bI_0, decide_eq_false_iff_not]
    rw [if_neg (not_not_intro c), b1, Option.bind_some, hco, Option.bind_some, u1, u2]
    exact d1
  · refine ((h.ca hw (a2.mono (fun a k q => ?_)) a3.2).thr 0).fr (b2.mono (fun a k q => by rcases q with q | q <;> rw [q] <;> simp [scr]))
    rcases q with q | q | q | q | q
    · exact cSl_ask q
    · rw [q]; simp [cAsk, scr]
    · rw [q]; simp [cAsk, scr]
    · rw [q]; simp [cAsk, scr]
    · rw [q.1]; simp [cAsk, scr]; omega
