/-! ===== copy ===== -/
theorem i120b (s i k : Nat) : (120 : Int32) * nI s + nI i + nI k = nI (120 * s + i + k) := by
  rw [i120, nI_add]
theorem s_copyUp {a b i j n : Nat} (ha : a < 8) (hb : b < 8) (hi : i + n ≤ 120) (hj : j + n ≤ 120) (hd : j ≤ i ∨ a ≠ b) (G : Nat → Int32) : ∀ (f k : Nat) (σ : aSt), k ≤ n → n < k + f → (∀ t, k ≤ t → t < n → gI σ 60 (120 * a + i + t) = G t) → ∃ σ', f_X12_copy_143 f (nI a) (nI i) (nI b) (nI j) (nI n) 1 (nI k) σ = some (nI n, σ') ∧ Fr (fun x y => x = 60 ∧ 120 * b + j + k ≤ y ∧ y < 120 * b + j + n) σ σ' ∧ ∀ t, k ≤ t → t < n → gI σ' 60 (120 * b + j + t) = G t := by
  intro f
  induction f with
  | zero => intro k σ h1 h2; omega
  | succ f ih =>
    intro k σ h1 h2 hG
    show ∃ σ', f_X12_copy_143_b (f_X12_copy_143 f) (nI a) (nI i) (nI b) (nI j) (nI n) 1 (nI k) σ = some (nI n, σ') ∧ _
    unfold f_X12_copy_143_b f_X12_copy_167
    by_cases hk : k = n
    · subst hk
      rw [if_pos (Int32.le_refl _)]
      exact ⟨σ, rfl, Fr.rf, fun t h3 h4 => by omega⟩
    · rw [if_neg (fun q => hk (by rw [nI_leI (by omega) (by omega)] at q; omega)), if_neg (by decide), i120b, i120b, if_pos (ix_in (by omega) (by omega)), if_pos (ix_in (by omega) (by omega)), ix_cl (by omega), ix_cl (by omega), nI_1, hG k (by omega) (by omega)]
      obtain ⟨σ', e1, e2, e3⟩ := ih (k + 1) (sI σ 60 (120 * b + j + k) (G k)) (by omega) (by omega) (fun t h3 h4 => by rw [gI_other (Or.inr (by omega))]; exact hG t (by omega) h4)
      refine ⟨σ', e1, (Fr.sI Fr.rf ⟨rfl, by omega, by omega⟩).tr (e2.mono (fun x y q => ⟨q.1, by omega, q.2.2⟩)), fun t h3 h4 => ?_⟩
      by_cases ht : t = k
      · subst ht
        rw [e2.2.1 60 _ (fun q => by omega), gI_same]
      · exact e3 t (by omega) h4
theorem nI_m1 {n k : Nat} (h : k < n) : nI n - 1 - nI k = nI (n - 1 - k) := by
  rw [show (1 : Int32) = nI 1 from rfl, pk_sub (by omega), pk_sub (by omega)]
theorem s_copyDn {a b i j n : Nat} (ha : a < 8) (hb : b < 8) (hi : i + n ≤ 120) (hj : j + n ≤ 120) (hd : i ≤ j ∨ a ≠ b) (G : Nat → Int32) : ∀ (f k : Nat) (σ : aSt), k ≤ n → n < k + f → (∀ t, t + k < n → gI σ 60 (120 * a + i + t) = G t) → ∃ σ', f_X12_copy_143 f (nI a) (nI i) (nI b) (nI j) (nI n) 0 (nI k) σ = some (nI n, σ') ∧ Fr (fun x y => x = 60 ∧ 120 * b + j ≤ y ∧ y < 120 * b + j + n - k) σ σ' ∧ ∀ t, t + k < n → gI σ' 60 (120 * b + j + t) = G t := by
  intro f
  induction f with
  | zero => intro k σ h1 h2; omega
  | succ f ih =>
    intro k σ h1 h2 hG
    show ∃ σ', f_X12_copy_143_b (f_X12_copy_143 f) (nI a) (nI i) (nI b) (nI j) (nI n) 0 (nI k) σ = some (nI n, σ') ∧ _
    unfold f_X12_copy_143_b f_X12_copy_167
    by_cases hk : k = n
    · subst hk
      rw [if_pos (Int32.le_refl _)]
      exact ⟨σ, rfl, Fr.rf, fun t h3 => by omega⟩
    · rw [if_neg (fun q => hk (by rw [nI_leI (by omega) (by omega)] at q; omega)), if_pos rfl, nI_m1 (by omega), i120b, i120b, if_pos (ix_in (by omega) (by omega)), if_pos (ix_in (by omega) (by omega)), ix_cl (by omega), ix_cl (by omega), nI_1, hG (n - 1 - k) (by omega)]
      obtain ⟨σ', e1, e2, e3⟩ := ih (k + 1) (sI σ 60 (120 * b + j + (n - 1 - k)) (G (n - 1 - k))) (by omega) (by omega) (fun t h3 => by rw [gI_other (Or.inr (by omega))]; exact hG t (by omega))
      refine ⟨σ', e1, (Fr.sI Fr.rf ⟨rfl, by omega, by omega⟩).tr (e2.mono (fun x y q => ⟨q.1, q.2.1, by omega⟩)), fun t h3 => ?_⟩
      by_cases ht : t = n - 1 - k
      · subst ht
        rw [e2.2.1 60 _ (fun q => by omega), gI_same]
      · exact e3 t (by omega)
theorem u0' {σ : aSt} {v : Int32} {x y k : Nat} (q : x ≠ 0) : gI (sI σ 0 k v) x y = gI σ x y := gI_other (Or.inl q)
theorem pl_wide2 (x y : Int32) : (x.toInt64 + y.toInt64).toInt = x.toInt + y.toInt := by
  have h1 := pi_rng x
  have h2 := pi_rng y
  rw [Int64.toInt_add, pi_wide, pi_wide, Int.bmod_eq_of_le] <;> omega
set_option maxHeartbeats 4000000 in
theorem op_copy {σ : aSt} (h : Inv σ) (p1 p2 p3 p4 p5 : Int32) : Op (f_X11_copy p1 p2 p3 p4 p5) (f_X12_copy p1 p2 p3 p4 p5) σ := by
  have bad : ¬ (0 ≤ p1 ∧ p1 ≤ 7) ∨ ¬ (0 ≤ p3 ∧ p3 ≤ 7) → Op (f_X11_copy p1 p2 p3 p4 p5) (f_X12_copy p1 p2 p3 p4 p5) σ := by
    intro hb
    refine ⟨-1000001, σ, _, ?_, ?_, h.thr 0⟩
    · unfold f_X11_copy f_X11_copy_14
      rw [s_isSheet]
      simp only [Option.bind_some, bI_0, decide_eq_false_iff_not]
      by_cases c1 : 0 ≤ p1 ∧ p1 ≤ 7
      · rw [if_neg (not_not_intro c1), s_isSheet]
        simp only [Option.bind_some, bI_0, decide_eq_false_iff_not]
        rw [if_pos (hb.resolve_left (not_not_intro c1))]
      · rw [if_pos c1]
    · unfold f_X12_copy f_X12_copy_19
      rw [s_isSheetM]
      simp only [Option.bind_some, bI_0, decide_eq_false_iff_not]
      by_cases c1 : 0 ≤ p1 ∧ p1 ≤ 7
      · rw [if_neg (not_not_intro c1), s_isSheetM]
        simp only [Option.bind_some, bI_0, decide_eq_false_iff_not]
        rw [if_pos (hb.resolve_left (not_not_intro c1))]
      · rw [if_pos c1]
  by_cases c1 : 0 ≤ p1 ∧ p1 ≤ 7
  case neg => exact bad (Or.inl c1)
  by_cases c2 : 0 ≤ p3 ∧ p3 ≤ 7
  case neg => exact bad (Or.inr c2)
  obtain ⟨a, ha, rfl⟩ := ix_rng (N := 8) rfl rfl c1.1 c1.2
  obtain ⟨b, hb, rfl⟩ := ix_rng (N := 8) rfl rfl c2.1 c2.2
  have hg := h.gn
  have ia : inB (nI a) 8 := ix_in ha (by omega)
  have ib : inB (nI b) 8 := ix_in hb (by omega)
  have ca : (nI a).toNatClampNeg = a := ix_cl (by omega)
  have cb : (nI b).toNatClampNeg = b := ix_cl (by omega)
  obtain ⟨oa1, oa2, oa3⟩ := sh_ok a ha
  obtain ⟨ob1, ob2, ob3⟩ := sh_ok b hb
  have oka : aSh (41 + 2 * (nI a).toNatClampNeg) = 9 ∧ 41 + 2 * (nI a).toNatClampNeg < gN σ := by rw [ca]; exact ⟨oa1, by omega⟩
  have okb : aSh (41 + 2 * (nI b).toNatClampNeg) = 9 ∧ 41 + 2 * (nI b).toNatClampNeg < gN σ := by rw [cb]; exact ⟨ob1, by omega⟩
  have xs : f_X11_copy (nI a) p2 (nI b) p4 p5 σ = if gI σ (41 + 2 * (nI a).toNatClampNeg) 1 = 0 then f_X11_copy_49 σ else if gI σ (41 + 2 * (nI b).toNatClampNeg) 1 = 0 then f_X11_copy_49 σ else if gI σ (41 + 2 * (nI a).toNatClampNeg) 2 = gI σ (41 + 2 * (nI b).toNatClampNeg) 2 then ((f_X9_has ((41 + 2 * (nI a).toNatClampNeg)) (p2) (p5) σ).bind (fun q14 => (if q14.1 = 0 then f_X11_copy_97 q14.2 else (if aSh ((41 + 2 * (nI b).toNatClampNeg)) = 9 ∧ (41 + 2 * (nI b).toNatClampNeg) < gN q14.2 then (f_X9_has ((41 + 2 * (nI b).toNatClampNeg)) (p4) (p5) q14.2).bind (fun q18 => (if q18.1 = 0 then f_X11_copy_97 q18.2 else (if aSh ((41 + 2 * (nI a).toNatClampNeg)) = 9 ∧ (41 + 2 * (nI a).toNatClampNeg) < gN q18.2 then (if aSh ((41 + 2 * (nI b).toNatClampNeg)) = 9 ∧ (41 + 2 * (nI b).toNatClampNeg) < gN q18.2 then (if aSh (((41 + 2 * (nI a).toNatClampNeg) + 1)) = 13 ∧ ((41 + 2 * (nI a).toNatClampNeg) + 1) < gN q18.2 then (if aSh (((41 + 2 * (nI b).toNatClampNeg) + 1)) = 13 ∧ ((41 + 2 * (nI b).toNatClampNeg) + 1) < gN q18.2 then (if ¬ p2 < 0 ∧ ¬ p4 < 0 ∧ ¬ p5 < 0 ∧ p2.toNatClampNeg + p5.toNatClampNeg ≤ aLn (((41 + 2 * (nI a).toNatClampNeg) + 1)) ∧ p4.toNatClampNeg + p5.toNatClampNeg ≤ aLn (((41 + 2 * (nI b).toNatClampNeg) + 1)) then (f_X11_unhurt (p5) (sC q18.2 ((41 + 2 * (nI a).toNatClampNeg) + 1) p2.toNatClampNeg ((41 + 2 * (nI b).toNatClampNeg) + 1) p4.toNatClampNeg p5.toNatClampNeg)).bind (fun q27 => some (q27.1, q27.2)) else none) else none) else none) else none) else none))) else none)))) else (f_X11_found (5) σ).bind (fun q29 => some (q29.1, q29.2)) := by
    unfold f_X11_copy
    rw [s_isSheet]
    simp only [Option.bind_some, bI_0, decide_eq_false_iff_not]
    rw [if_neg (not_not_intro c1), s_isSheet]
    simp only [Option.bind_some, bI_0, decide_eq_false_iff_not]
    rw [if_neg (not_not_intro c2), if_pos ia, if_pos ib, if_pos oka, if_pos okb, if_pos oka]
  rw [ca, cb] at xs
  have ms : ∀ τ : aSt, f_X12_copy (nI a) p2 (nI b) p4 p5 τ = if gI (sI (sI τ 57 0 0) 57 1 0) 58 (nI a).toNatClampNeg < 0 then f_X12_copy_45 (sI (sI τ 57 0 0) 57 1 0) else if 0 ≤ gI (sI (sI τ 57 0 0) 57 1 0) 58 (nI b).toNatClampNeg then (if gI (sI (sI τ 57 0 0) 57 1 0) 58 (nI a).toNatClampNeg = gI (sI (sI τ 57 0 0) 57 1 0) 58 (nI b).toNatClampNeg then (if p2 < 0 then f_X12_copy_121 (sI (sI τ 57 0 0) 57 1 0) else if p4 < 0 then f_X12_copy_121 (sI (sI τ 57 0 0) 57 1 0) else if p5 < 0 then f_X12_copy_121 (sI (sI τ 57 0 0) 57 1 0) else (if (gI (sI (sI τ 57 0 0) 57 1 0) 59 (nI a).toNatClampNeg).toInt64 < p2.toInt64 + p5.toInt64 then f_X12_copy_121 (sI (sI τ 57 0 0) 57 1 0) else if p4.toInt64 + p5.toInt64 ≤ (gI (sI (sI τ 57 0 0) 57 1 0) 59 (nI b).toNatClampNeg).toInt64 then (if p2 < p4 then f_X12_copy_138 (nI a) (p2) (nI b) (p4) (p5) (0) (sI (sI τ 57 0 0) 57 1 0) else f_X12_copy_138 (nI a) (p2) (nI b) (p4) (p5) (1) (sI (sI τ 57 0 0) 57 1 0)) else f_X12_copy_121 (sI (sI τ 57 0 0) 57 1 0))) else (f_X12_found (5) (sI (sI τ 57 0 0) 57 1 0)).bind (fun q22 => some (q22.1, q22.2))) else f_X12_copy_45 (sI (sI τ 57 0 0) 57 1 0) := by
    intro τ
    unfold f_X12_copy
    rw [s_isSheetM]
    simp only [Option.bind_some, bI_0, decide_eq_false_iff_not]
    rw [if_neg (not_not_intro c1), s_isSheetM]
    simp only [Option.bind_some, bI_0, decide_eq_false_iff_not]
    rw [if_neg (not_not_intro c2), if_pos ia, if_pos ib, if_pos ia, if_pos ib, if_pos ia, if_pos ib]
    simp only [lc_gt, lc_le]
  rw [ca, cb] at ms
  have em : ∀ (τ : aSt) (x y : Nat), x ≠ 57 → gI (sI (sI τ 57 0 0) 57 1 0) x y = gI τ x y := fun τ x y q => by rw [gI_other (Or.inl q), gI_other (Or.inl q)]
  have m0 : ∀ v x y, x ≠ 57 → x ≠ 0 → gI (sI (sI (sI σ 0 10 v) 57 0 0) 57 1 0) x y = gI σ x y := fun v x y q q2 => by rw [em _ _ _ q, gI_other (Or.inl q2)]
  rcases h.1 a ha with ⟨q1, q2⟩ | ⟨q1, l, n, q2, q3, q4, q5, q6, q7, q8⟩
  · refine ⟨-1000011, sI σ 0 10 1, _, by rw [xs, q1, if_pos rfl]; rfl, ?_, h.find 1⟩
    rw [ms, m0 _ _ _ (by omega) (by omega), q2, if_pos (by decide)]
    rfl
  rcases h.1 b hb with ⟨t1, t2⟩ | ⟨t1, l', n', t2, t3, t4, t5, t6, t7, t8⟩
  · refine ⟨-1000011, sI σ 0 10 1, _, by rw [xs, q1, if_neg (by decide), t1, if_pos rfl]; rfl, ?_, h.find 1⟩
    rw [ms, m0 _ _ _ (by omega) (by omega), q4, if_neg (nI_neg (by omega)), m0 _ _ _ (by omega) (by omega), t2, if_neg (by decide)]
    rfl
  by_cases hl : nI l = nI l'
  case neg =>
    refine ⟨-1000015, sI σ 0 10 5, _, by rw [xs, q1, if_neg (by decide), t1, if_neg (by decide), q5, t5, if_neg hl]; rfl, ?_, h.find 5⟩
    rw [ms, m0 _ _ _ (by omega) (by omega), m0 _ _ _ (by omega) (by omega), q4, t4, if_neg (nI_neg (by omega)), if_pos (nI_ge0 (by omega)), if_neg hl]
    rfl
  rw [q1, if_neg (by decide), t1, if_neg (by decide), q5, t5, if_pos hl, s_has ha p2 p5 hg q3 q7] at xs
  simp only [Option.bind_some, bI_0, decide_eq_false_iff_not] at xs
  have en : (nI n).toInt = n := pi_nI (by omega)
  have en' : (nI n').toInt = n' := pi_nI (by omega)
  have e0 : (0 : Int32).toInt = 0 := rfl
  have ms2 : ∀ τ : aSt, gI τ 58 a = nI l → gI τ 58 b = nI l' → gI τ 59 a = nI n → gI τ 59 b = nI n' → f_X12_copy (nI a) p2 (nI b) p4 p5 τ = if (0 ≤ p5.toInt ∧ 0 ≤ p2.toInt ∧ p2.toInt + p5.toInt ≤ n) ∧ (0 ≤ p5.toInt ∧ 0 ≤ p4.toInt ∧ p4.toInt + p5.toInt ≤ n') then (if p2 < p4 then f_X12_copy_138 (nI a) (p2) (nI b) (p4) (p5) (0) (sI (sI τ 57 0 0) 57 1 0) else f_X12_copy_138 (nI a) (p2) (nI b) (p4) (p5) (1) (sI (sI τ 57 0 0) 57 1 0)) else f_X12_copy_121 (sI (sI τ 57 0 0) 57 1 0) := by
    intro τ u1 u2 u3 u4
    rw [ms, em _ _ _ (by omega), em _ _ _ (by omega), em _ _ _ (by omega), em _ _ _ (by omega), u1, u2, u3, u4, if_neg (nI_neg (by omega)), if_pos (nI_ge0 (by omega)), if_pos hl]
    simp only [pi_lt p2 0, pi_lt p4 0, pi_lt p5 0, pl_lt, pl_le, pl_wide2, pi_wide, en, en', e0]
    by_cases d1 : p2.toInt < 0
    · rw [if_pos d1, if_neg (fun z => by omega)]
    · rw [if_neg d1]
      by_cases d2 : p4.toInt < 0
      · rw [if_pos d2, if_neg (fun z => by omega)]
      · rw [if_neg d2]
        by_cases d3 : p5.toInt < 0
        · rw [if_pos d3, if_neg (fun z => by omega)]
        · rw [if_neg d3]
          by_cases d4 : (n : Int) < p2.toInt + p5.toInt
          · rw [if_pos d4, if_neg (fun z => by omega)]
          · rw [if_neg d4]
            by_cases d5 : p4.toInt + p5.toInt ≤ n'
            · have dd : (0 ≤ p5.toInt ∧ 0 ≤ p2.toInt ∧ p2.toInt + p5.toInt ≤ n) ∧ (0 ≤ p5.toInt ∧ 0 ≤ p4.toInt ∧ p4.toInt + p5.toInt ≤ n') := by omega
              rw [if_pos d5, if_pos dd]
            · rw [if_neg d5, if_neg (fun z => by omega)]
  have u0 : ∀ v x y, x ≠ 0 → gI (sI σ 0 10 v) x y = gI σ x y := fun v x y q => gI_other (Or.inl q)
  by_cases k1 : 0 ≤ p5.toInt ∧ 0 ≤ p2.toInt ∧ p2.toInt + p5.toInt ≤ n
  case neg =>
    refine ⟨-1000012, sI σ 0 10 2, _, by rw [xs, if_pos k1]; rfl, ?_, h.find 2⟩
    rw [ms2 _ (by rw [u0 _ _ _ (by omega), q4]) (by rw [u0 _ _ _ (by omega), t4]) (by rw [u0 _ _ _ (by omega), q6]) (by rw [u0 _ _ _ (by omega), t6]), if_neg (fun z => k1 z.1)]
    rfl
  rw [if_neg (not_not_intro k1), if_pos ⟨ob1, by omega⟩, s_has hb p4 p5 hg t3 t7] at xs
  simp only [Option.bind_some, bI_0, decide_eq_false_iff_not] at xs
  by_cases k2 : 0 ≤ p5.toInt ∧ 0 ≤ p4.toInt ∧ p4.toInt + p5.toInt ≤ n'
  case neg =>
    refine ⟨-1000012, sI σ 0 10 2, _, by rw [xs, if_pos k2]; rfl, ?_, h.find 2⟩
    rw [ms2 _ (by rw [u0 _ _ _ (by omega), q4]) (by rw [u0 _ _ _ (by omega), t4]) (by rw [u0 _ _ _ (by omega), q6]) (by rw [u0 _ _ _ (by omega), t6]), if_neg (fun z => k2 z.2)]
    rfl
  obtain ⟨i, hi, rfl⟩ : ∃ i, i ≤ 120 ∧ p2 = nI i := ⟨p2.toInt.toNat, by omega, pi_of k1.2.1⟩
  obtain ⟨j, hj, rfl⟩ : ∃ j, j ≤ 120 ∧ p4 = nI j := ⟨p4.toInt.toNat, by omega, pi_of k2.2.1⟩
  obtain ⟨c, hc, rfl⟩ : ∃ c, c ≤ 120 ∧ p5 = nI c := ⟨p5.toInt.toNat, by omega, pi_of k1.1⟩
  have ei : (nI i).toInt = i := pi_nI (by omega)
  have ej : (nI j).toInt = j := pi_nI (by omega)
  have ec : (nI c).toInt = c := pi_nI (by omega)
  have kk := k1
  have kk2 := k2
  rw [ei, ec] at kk
  rw [ej, ec] at kk2
  rw [if_neg (not_not_intro k2), if_pos ⟨oa1, by omega⟩, if_pos ⟨ob1, by omega⟩, if_pos ⟨oa2, by omega⟩, if_pos ⟨ob2, by omega⟩, ix_cl (by omega), ix_cl (by omega), ix_cl (by omega), oa3, ob3, if_pos ⟨nI_neg (by omega), nI_neg (by omega), nI_neg (by omega), by omega, by omega⟩] at xs
  have er : ∀ x y, x ≠ 42 + 2 * b → gI (sC σ (41 + 2 * a + 1) i (41 + 2 * b + 1) j c) x y = gI σ x y := fun x y q => by rw [gI_sC, if_neg (by omega)]
  have es : ∀ x y, x ≠ 42 + 2 * b → x ≠ 57 → x ≠ 0 → gI (sI (sI (sI (sC σ (41 + 2 * a + 1) i (41 + 2 * b + 1) j c) 0 10 0) 57 0 0) 57 1 0) x y = gI σ x y := fun x y g1 g2 g3 => by rw [em _ _ _ g2, gI_other (Or.inl g3), er _ _ g1]
  have mm : ∃ σ2, f_X12_copy (nI a) (nI i) (nI b) (nI j) (nI c) (sI (sC σ (41 + 2 * a + 1) i (41 + 2 * b + 1) j c) 0 10 0) = some (nI c, σ2) ∧ Fr (fun x y => x = 60 ∧ 120 * b + j ≤ y ∧ y < 120 * b + j + c) (sI (sI (sI (sC σ (41 + 2 * a + 1) i (41 + 2 * b + 1) j c) 0 10 0) 57 0 0) 57 1 0) σ2 ∧ ∀ t, t < c → gI σ2 60 (120 * b + j + t) = gI σ 60 (120 * a + i + t) := by
    rw [ms2 _ (by rw [u0' (by omega), er _ _ (by omega), q4]) (by rw [u0' (by omega), er _ _ (by omega), t4]) (by rw [u0' (by omega), er _ _ (by omega), q6]) (by rw [u0' (by omega), er _ _ (by omega), t6]), if_pos ⟨k1, k2⟩]
    by_cases hij : nI i < nI j
    · rw [if_pos hij]
      rw [nI_ltI (by omega) (by omega)] at hij
      obtain ⟨σ2, w1, w2, w3⟩ := s_copyDn ha hb (n := c) (i := i) (j := j) (by omega) (by omega) (Or.inl (by omega)) (fun t => gI σ 60 (120 * a + i + t)) aN 0 (sI (sI (sI (sC σ (41 + 2 * a + 1) i (41 + 2 * b + 1) j c) 0 10 0) 57 0 0) 57 1 0) (by omega) (by show c < 0 + 1000000; omega) (fun t ht => es _ _ (by omega) (by omega) (by omega))
      exact ⟨σ2, w1, w2.mono (fun x y q => ⟨q.1, q.2.1, by omega⟩), fun t ht => w3 t (by omega)⟩
    · rw [if_neg hij]
      rw [nI_ltI (by omega) (by omega)] at hij
      obtain ⟨σ2, w1, w2, w3⟩ := s_copyUp ha hb (n := c) (i := i) (j := j) (by omega) (by omega) (Or.inl (by omega)) (fun t => gI σ 60 (120 * a + i + t)) aN 0 (sI (sI (sI (sC σ (41 + 2 * a + 1) i (41 + 2 * b + 1) j c) 0 10 0) 57 0 0) 57 1 0) (by omega) (by show c < 0 + 1000000; omega) (fun t _ ht => es _ _ (by omega) (by omega) (by omega))
      exact ⟨σ2, w1, w2.mono (fun x y q => ⟨q.1, by omega, q.2.2⟩), fun t ht => w3 t (by omega) ht⟩
  obtain ⟨σ2, w1, w2, w3⟩ := mm
  refine ⟨nI c, sI (sC σ (41 + 2 * a + 1) i (41 + 2 * b + 1) j c) 0 10 0, σ2, xs, w1, ?_⟩
  have ff : Fr (cS b) σ σ2 := (((((Fr.sC Fr.rf (fun k => cS_b (Or.inr (by omega)))).sI (by simp [cS])).sI (by simp [cS])).sI (by simp [cS]))).tr (w2.mono (fun x y q => cS_60 ⟨q.1, by omega, by omega⟩))
  have gg : ∀ x y, x ≠ 60 → gI σ2 x y = gI (sI (sI (sI (sC σ (41 + 2 * a + 1) i (41 + 2 * b + 1) j c) 0 10 0) 57 0 0) 57 1 0) x y := fun x y q => w2.2.1 x y (fun z => q z.1)
  refine h.one hb ff (Or.inr ⟨?_, l', n', t2, t3, ?_, ?_, ?_, ?_, fun t ht => ?_⟩) ?_
  · rw [gg _ _ (by omega), es _ _ (by omega) (by omega) (by omega), t1]
  · rw [gg _ _ (by omega), es _ _ (by omega) (by omega) (by omega), t4]
  · rw [gg _ _ (by omega), es _ _ (by omega) (by omega) (by omega), t5]
  · rw [gg _ _ (by omega), es _ _ (by omega) (by omega) (by omega), t6]
  · rw [gg _ _ (by omega), es _ _ (by omega) (by omega) (by omega), t7]
  · rw [gg _ _ (by omega), em _ _ _ (by omega), gI_other (Or.inl (by omega)), gI_sC, if_pos (by omega)]
    by_cases hin : j ≤ t ∧ t < j + c
    · rw [pk_cpy_in hin.1 hin.2, show 120 * b + t = 120 * b + j + (t - j) by omega, w3 (t - j) (by omega), show 41 + 2 * a + 1 = 42 + 2 * a by omega, q8 _ (by omega), Nat.add_assoc]
    · rw [pk_cpy_out (by omega), w2.2.1 60 _ (fun z => by omega), es _ _ (by omega) (by omega) (by omega), show 41 + 2 * b + 1 = 42 + 2 * b by omega, t8 t ht]
  · rw [gg _ _ (by omega), gg _ _ (by omega), gI_same, gI_other (Or.inl (by omega)), gI_other (Or.inl (by omega)), gI_same]
