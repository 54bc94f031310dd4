/-! ===== drop, set, copy ===== -/
theorem nI_neg {n : Nat} (h : n < 2147483648) : ¬ nI n < 0 := nI_pos h
theorem nI_ge0 {n : Nat} (h : n < 2147483648) : 0 ≤ nI n := nI_pos' h
theorem op_drop {σ : aSt} (h : Inv σ) (p1 : Int32) : Op (f_X11_drop p1) (f_X12_drop p1) σ := by
  by_cases c1 : 0 ≤ p1 ∧ p1 ≤ 7
  · obtain ⟨s, hs, rfl⟩ := ix_rng (N := 8) rfl rfl c1.1 c1.2
    have hg := h.gn
    have i8 : inB (nI s) 8 := ix_in hs (by omega)
    have cl : (nI s).toNatClampNeg = s := ix_cl (by omega)
    have ok : aSh (41 + 2 * s) = 9 ∧ 41 + 2 * s < gN σ := ⟨(sh_ok s hs).1, by omega⟩
    rcases h.1 s hs with ⟨q1, q2⟩ | ⟨q1, l, n, q2, q3, q4, q5, q6, q7, q8⟩
    · refine ⟨-1000011, sI σ 0 10 1, _, ?_, ?_, h.find 1⟩
      · unfold f_X11_drop
        rw [s_isSheet]
        simp only [Option.bind_some, bI_0, decide_eq_false_iff_not]
        rw [if_neg (not_not_intro c1), if_pos i8, cl, if_pos ok, q1, if_pos rfl]
        rfl
      · unfold f_X12_drop
        rw [s_isSheetM]
        simp only [Option.bind_some, bI_0, decide_eq_false_iff_not]
        rw [if_neg (not_not_intro c1), if_pos i8, if_neg (show ¬ 0 ≤ gI (sI (sI (sI σ 0 10 1) 57 0 0) 57 1 0) 58 (nI s).toNatClampNeg by rw [cl, gI_other (Or.inl (by omega)), gI_other (Or.inl (by omega)), gI_other (Or.inl (by omega)), q2]; decide)]
        rfl
    · refine ⟨nI n, sI (sI σ (41 + 2 * s) 1 0) 0 10 0, sI (sI (sI (sI (sI σ (41 + 2 * s) 1 0) 0 10 0) 57 0 0) 57 1 0) 58 s (-1), ?_, ?_, ?_⟩
      · unfold f_X11_drop
        rw [s_isSheet]
        simp only [Option.bind_some, bI_0, decide_eq_false_iff_not]
        rw [if_neg (not_not_intro c1), if_pos i8, cl, if_pos ok, q1, if_neg (by decide), gI_other (Or.inr (by omega)), q7]
        rfl
      · unfold f_X12_drop
        rw [s_isSheetM]
        simp only [Option.bind_some, bI_0, decide_eq_false_iff_not]
        rw [if_neg (not_not_intro c1), if_pos i8, if_pos (show 0 ≤ gI (sI (sI (sI (sI σ (41 + 2 * s) 1 0) 0 10 0) 57 0 0) 57 1 0) 58 (nI s).toNatClampNeg by rw [cl, gI_other (Or.inl (by omega)), gI_other (Or.inl (by omega)), gI_other (Or.inl (by omega)), gI_other (Or.inl (by omega)), q4]; exact nI_ge0 (by omega)), if_pos i8, if_pos i8, cl, gI_other (Or.inl (by omega)), gI_other (Or.inl (by omega)), gI_other (Or.inl (by omega)), gI_other (Or.inl (by omega)), gI_other (Or.inl (by omega)), q6]
      · refine h.one hs (((((Fr.sI Fr.rf (cS_b (Or.inl rfl))).sI (by simp [cS])).sI (by simp [cS])).sI (by simp [cS])).sI (by simp [cS])) (Or.inl ⟨?_, ?_⟩) ?_
        · rw [gI_other (Or.inl (by omega)), gI_other (Or.inl (by omega)), gI_other (Or.inl (by omega)), gI_other (Or.inl (by omega)), gI_same]
        · rw [gI_same]
        · rw [gI_other (Or.inl (by omega)), gI_other (Or.inl (by omega)), gI_other (Or.inl (by omega)), gI_same, gI_other (Or.inl (by omega)), gI_same]
  · refine ⟨-1000001, σ, _, ?_, ?_, h.thr 0⟩
    · unfold f_X11_drop
      rw [s_isSheet]
      simp only [Option.bind_some, bI_0, decide_eq_false_iff_not]
      rw [if_pos c1]
    · unfold f_X12_drop
      rw [s_isSheetM]
      simp only [Option.bind_some, bI_0, decide_eq_false_iff_not]
      rw [if_pos c1]
theorem s_has {s m : Nat} (hs : s < 8) (i n : Int32) {σ : aSt} (hg : 84 ≤ gN σ) (hm : m ≤ 120) (hz : gI σ (41 + 2 * s) 3 = nI m) : f_X9_has (41 + 2 * s) i n σ = some (bI (decide (0 ≤ n.toInt ∧ 0 ≤ i.toInt ∧ i.toInt + n.toInt ≤ m)), σ) := by
  unfold f_X9_has f_X9_has_30 f_X9_has_31
  have e0 : (0 : Int32).toInt = 0 := rfl
  have em : (nI m).toInt = m := pi_nI (by omega)
  by_cases c1 : n < 0
  · rw [if_pos c1, if_pos v0_ok]
    rw [pi_lt] at c1
    have : ¬ (0 ≤ n.toInt ∧ 0 ≤ i.toInt ∧ i.toInt + n.toInt ≤ m) := by omega
    simp [this, bI]
  · rw [if_neg c1]
    by_cases c2 : i < 0
    · rw [if_pos c2, if_pos v0_ok]
      rw [pi_lt] at c2
      have : ¬ (0 ≤ n.toInt ∧ 0 ≤ i.toInt ∧ i.toInt + n.toInt ≤ m) := by omega
      simp [this, bI]
    · rw [if_neg c2, if_pos ⟨(sh_ok s hs).1, by omega⟩, hz]
      rw [pi_lt] at c1 c2
      by_cases c3 : nI m < i
      · rw [if_pos c3, if_pos v0_ok]
        rw [pi_lt] at c3
        have : ¬ (0 ≤ n.toInt ∧ 0 ≤ i.toInt ∧ i.toInt + n.toInt ≤ m) := by omega
        simp [this, bI]
      · rw [if_neg c3]
        rw [pi_lt] at c3
        have es : (nI m - i).toInt = m - i.toInt := by rw [pi_sub, em] <;> omega
        by_cases c4 : nI m - i < n
        · rw [if_pos c4, if_pos v0_ok]
          rw [pi_lt, es] at c4
          have : ¬ (0 ≤ n.toInt ∧ 0 ≤ i.toInt ∧ i.toInt + n.toInt ≤ m) := by omega
          simp [this, bI]
        · rw [if_neg c4, if_pos v1_ok]
          rw [pi_lt, es] at c4
          have : 0 ≤ n.toInt ∧ 0 ≤ i.toInt ∧ i.toInt + n.toInt ≤ m := by omega
          simp [this, bI]
/-- what a lane keeps -/
def lnV (l : Nat) (v : Int32) : Int32 := if l = 0 then v.toInt8.toInt32 else if l = 1 then v.toInt16.toInt32 else v
theorem s_put {s m l i : Nat} (hs : s < 8) (v : Int32) {σ : aSt} (hg : 84 ≤ gN σ) (hm : m ≤ 120) (hl : l < 3) (hz : gI σ (41 + 2 * s) 3 = nI m) (hz2 : gI σ (41 + 2 * s) 2 = nI l) (hi : i < m) : f_X9_put (41 + 2 * s) (nI i) v σ = some (lnV l v, sI σ (42 + 2 * s) i (lnV l v)) := by
  obtain ⟨a1, a2, a3⟩ := sh_ok s hs
  have key : ∀ t : Int32, f_X9_put_26 (41 + 2 * s) (nI i) t σ = some (t, sI σ (42 + 2 * s) i t) := by
    intro t
    unfold f_X9_put_26 f_X9_put_43
    have e1 : (1 : Int32).toInt = 1 := rfl
    have e2 : (nI i).toInt = i := pi_nI (by omega)
    have hd : (0 ≤ (1 : Int32).toInt ∧ 0 ≤ (nI i).toInt ∧ (nI i).toInt + (1 : Int32).toInt ≤ m) := by omega
    rw [if_pos ⟨a1, by omega⟩, s_has hs (nI i) 1 hg hm hz]
    simp only [Option.bind_some, bI_0, decide_eq_false_iff_not]
    rw [if_neg (not_not_intro hd), if_pos ⟨a1, by omega⟩, if_pos ⟨a2, by omega⟩, a3, if_pos (ix_in (by omega) (by omega)), ix_cl (by omega), show 41 + 2 * s + 1 = 42 + 2 * s by omega]
  unfold f_X9_put
  rw [if_pos ⟨a1, by omega⟩, hz2]
  unfold lnV
  by_cases c0 : l = 0
  · subst c0
    rw [if_pos (show nI 0 = 0 from rfl), if_pos rfl]
    exact key _
  · rw [if_neg (show ¬ nI l = 0 from fun q => c0 ((nI_eq (b := 0) (by omega) (by omega)).mp q)), if_neg c0]
    by_cases c2 : l = 1
    · subst c2
      rw [if_pos (show nI 1 = 1 from rfl), if_pos rfl]
      exact key _
    · rw [if_neg (show ¬ nI l = 1 from fun q => c2 ((nI_eq (b := 1) (by omega) (by omega)).mp q)), if_neg c2]
      exact key _
theorem op_set {σ : aSt} (h : Inv σ) (p1 p2 p3 : Int32) : Op (f_X11_set p1 p2 p3) (f_X12_set p1 p2 p3) σ := by
  by_cases c1 : 0 ≤ p1 ∧ p1 ≤ 7
  · obtain ⟨s, hs, rfl⟩ := ix_rng (N := 8) rfl rfl c1.1 c1.2
    have hg := h.gn
    have i8 : inB (nI s) 8 := ix_in hs (by omega)
    have cl : (nI s).toNatClampNeg = s := ix_cl (by omega)
    have ok : aSh (41 + 2 * s) = 9 ∧ 41 + 2 * s < gN σ := ⟨(sh_ok s hs).1, by omega⟩
    rcases h.1 s hs with ⟨q1, q2⟩ | ⟨q1, l, n, q2, q3, q4, q5, q6, q7, q8⟩
    · refine ⟨-1000011, sI σ 0 10 1, _, ?_, ?_, h.find 1⟩
      · unfold f_X11_set
        rw [s_isSheet]
        simp only [Option.bind_some, bI_0, decide_eq_false_iff_not]
        rw [if_neg (not_not_intro c1), if_pos i8, cl, if_pos ok, q1, if_pos rfl]
        rfl
      · unfold f_X12_set
        rw [s_isSheetM]
        simp only [Option.bind_some, bI_0, decide_eq_false_iff_not]
        rw [if_neg (not_not_intro c1), if_pos i8, if_neg (show ¬ 0 ≤ gI (sI (sI (sI σ 0 10 1) 57 0 0) 57 1 0) 58 (nI s).toNatClampNeg by rw [cl, gI_other (Or.inl (by omega)), gI_other (Or.inl (by omega)), gI_other (Or.inl (by omega)), q2]; decide)]
        rfl
    · have e1 : (1 : Int32).toInt = 1 := rfl
      have en : (nI n).toInt = n := pi_nI (by omega)
      have en1 : (nI n - 1).toInt = n - 1 := by rw [pi_sub, en] <;> omega
      have hin : (0 ≤ p2 ∧ p2 ≤ nI n - 1) ↔ (0 ≤ (1 : Int32).toInt ∧ 0 ≤ p2.toInt ∧ p2.toInt + (1 : Int32).toInt ≤ n) := by
        rw [pi_le, pi_le, en1]
        have e0 : (0 : Int32).toInt = 0 := rfl
        omega
      have xs : f_X11_set (nI s) p2 p3 σ = if (0 ≤ (1 : Int32).toInt ∧ 0 ≤ p2.toInt ∧ p2.toInt + (1 : Int32).toInt ≤ n) then (f_X9_put (41 + 2 * s) p2 p3 σ).bind (fun q11 => (f_X11_unhurt (q11.1) q11.2).bind (fun q14 => some (q14.1, q14.2))) else some (-1000012, sI σ 0 10 2) := by
        unfold f_X11_set
        rw [s_isSheet]
        simp only [Option.bind_some, bI_0, decide_eq_false_iff_not]
        rw [if_neg (not_not_intro c1), if_pos i8, cl, if_pos ok, q1, if_neg (by decide), if_pos ok, s_has hs p2 1 hg q3 q7]
        simp only [Option.bind_some, bI_0, decide_eq_false_iff_not]
        by_cases cd : (0 ≤ (1 : Int32).toInt ∧ 0 ≤ p2.toInt ∧ p2.toInt + (1 : Int32).toInt ≤ n)
        · rw [if_neg (not_not_intro cd), if_pos cd, if_pos ok]
        · rw [if_pos cd, if_neg cd]
          rfl
      have ms : ∀ τ : aSt, gI τ 58 s = nI l → gI τ 59 s = nI n → f_X12_set (nI s) p2 p3 τ = if (0 ≤ (1 : Int32).toInt ∧ 0 ≤ p2.toInt ∧ p2.toInt + (1 : Int32).toInt ≤ n) then f_X12_set_99 (nI s) p2 ((120 * nI s) + p2) (lnV l p3) (sI (sI τ 57 0 0) 57 1 0) else some (-1000012, sI (sI (sI τ 57 0 0) 57 1 0) 57 1 2) := by
        intro τ t1 t2
        unfold f_X12_set
        rw [s_isSheetM]
        simp only [Option.bind_some, bI_0, decide_eq_false_iff_not]
        have g1 : gI (sI (sI τ 57 0 0) 57 1 0) 58 s = nI l := by rw [gI_other (Or.inl (by omega)), gI_other (Or.inl (by omega)), t1]
        have g2 : gI (sI (sI τ 57 0 0) 57 1 0) 59 s = nI n := by rw [gI_other (Or.inl (by omega)), gI_other (Or.inl (by omega)), t2]
        rw [← cl] at g1 g2
        rw [if_neg (not_not_intro c1), if_pos i8, g1, if_pos (nI_ge0 (by omega)), if_pos i8, g2, s_in 0 (nI n - 1).toInt64 0 (nI n - 1) rfl rfl]
        simp only [Option.bind_some, bI_0, decide_eq_false_iff_not]
        by_cases cd : (0 ≤ (1 : Int32).toInt ∧ 0 ≤ p2.toInt ∧ p2.toInt + (1 : Int32).toInt ≤ n)
        · rw [if_neg (not_not_intro (hin.mpr cd)), if_pos cd, if_pos i8, g1]
          unfold lnV
          by_cases c0 : l = 0
          · subst c0
            rw [if_pos (show nI 0 = 0 from rfl), if_pos rfl]
          · rw [if_neg (show ¬ nI l = 0 from fun q => c0 ((nI_eq (b := 0) (by omega) (by omega)).mp q)), if_neg c0, if_pos i8]
            by_cases c2 : l = 1
            · subst c2
              rw [if_pos (show nI 1 = 1 from rfl), if_pos rfl]
            · rw [if_neg (show ¬ nI l = 1 from fun q => c2 ((nI_eq (b := 1) (by omega) (by omega)).mp q)), if_neg c2]
        · rw [if_pos (fun z => cd (hin.mp z)), if_neg cd]
          rfl
      by_cases cd : (0 ≤ (1 : Int32).toInt ∧ 0 ≤ p2.toInt ∧ p2.toInt + (1 : Int32).toInt ≤ n)
      · obtain ⟨i, hi, rfl⟩ : ∃ i, i < n ∧ p2 = nI i := ⟨p2.toInt.toNat, by omega, pi_of cd.2.1⟩
        refine ⟨lnV l p3, sI (sI σ (42 + 2 * s) i (lnV l p3)) 0 10 0, sI (sI (sI (sI (sI σ (42 + 2 * s) i (lnV l p3)) 0 10 0) 57 0 0) 57 1 0) 60 (120 * s + i) (lnV l p3), ?_, ?_, ?_⟩
        · rw [xs, if_pos cd, s_put hs p3 hg q3 q2 q7 q5 hi]
          rfl
        · rw [ms _ (by rw [gI_other (Or.inl (by omega)), gI_other (Or.inl (by omega)), q4]) (by rw [gI_other (Or.inl (by omega)), gI_other (Or.inl (by omega)), q6]), if_pos cd]
          unfold f_X12_set_99
          rw [i120, if_pos (ix_in (by omega) (by omega)), if_pos (ix_in (by omega) (by omega)), ix_cl (by omega), gI_same]
        · refine h.one hs (((((Fr.sI Fr.rf (cS_b (Or.inr rfl))).sI (by simp [cS])).sI (by simp [cS])).sI (by simp [cS])).sI (cS_60 ⟨rfl, by omega, by omega⟩)) (Or.inr ⟨?_, l, n, q2, q3, ?_, ?_, ?_, ?_, fun j hj => ?_⟩) ?_
          · rw [gI_other (Or.inl (by omega)), gI_other (Or.inl (by omega)), gI_other (Or.inl (by omega)), gI_other (Or.inl (by omega)), gI_other (Or.inl (by omega)), q1]
          · rw [gI_other (Or.inl (by omega)), gI_other (Or.inl (by omega)), gI_other (Or.inl (by omega)), gI_other (Or.inl (by omega)), gI_other (Or.inl (by omega)), q4]
          · rw [gI_other (Or.inl (by omega)), gI_other (Or.inl (by omega)), gI_other (Or.inl (by omega)), gI_other (Or.inl (by omega)), gI_other (Or.inl (by omega)), q5]
          · rw [gI_other (Or.inl (by omega)), gI_other (Or.inl (by omega)), gI_other (Or.inl (by omega)), gI_other (Or.inl (by omega)), gI_other (Or.inl (by omega)), q6]
          · rw [gI_other (Or.inl (by omega)), gI_other (Or.inl (by omega)), gI_other (Or.inl (by omega)), gI_other (Or.inl (by omega)), gI_other (Or.inl (by omega)), q7]
          · rw [gI_other (a := 60) (Or.inl (by omega)), gI_other (a := 57) (Or.inl (by omega)), gI_other (a := 57) (Or.inl (by omega)), gI_other (a := 0) (Or.inl (by omega))]
            by_cases hji : j = i
            · subst hji
              rw [gI_same, gI_same]
            · rw [gI_other (a := 42 + 2 * s) (Or.inr hji), gI_other (a := 60) (Or.inr (by omega)), gI_other (a := 57) (Or.inl (by omega)), gI_other (a := 57) (Or.inl (by omega)), gI_other (a := 0) (Or.inl (by omega)), gI_other (Or.inl (by omega))]
              exact q8 j hj
          · rw [gI_other (Or.inl (by omega)), gI_other (Or.inl (by omega)), gI_other (Or.inl (by omega)), gI_same, gI_other (Or.inl (by omega)), gI_same]
      · refine ⟨-1000012, sI σ 0 10 2, _, by rw [xs, if_neg cd], ?_, h.find 2⟩
        rw [ms _ (by rw [gI_other (Or.inl (by omega)), q4]) (by rw [gI_other (Or.inl (by omega)), q6]), if_neg cd]
  · refine ⟨-1000001, σ, _, ?_, ?_, h.thr 0⟩
    · unfold f_X11_set
      rw [s_isSheet]
      simp only [Option.bind_some, bI_0, decide_eq_false_iff_not]
      rw [if_pos c1]
    · unfold f_X12_set
      rw [s_isSheetM]
      simp only [Option.bind_some, bI_0, decide_eq_false_iff_not]
      rw [if_pos c1]
