/-! ===== verdict, mark, counted ===== -/
theorem pPay.verd {σ σ' : aSt} {N n : Nat} {v : Int32} (h : pPay σ N) (hn : n < N) (hv : v = 0 ∨ v = 1) (f : Fr (fun a k => (a = 84 + n ∧ k = 7) ∨ (a = 67 ∧ k = n) ∨ (a = 57 ∧ k = 0)) σ σ') (e1 : gI σ' (84 + n) 7 = v) (e2 : gI σ' 67 n = v) : pPay σ' N := by
  obtain ⟨h1, h2, h3, h4, h5, h6, h7, h8, h9, h10⟩ := h
  have e : ∀ a k, 61 ≤ a → a ≤ 68 → a ≠ 67 → gI σ' a k = gI σ a k := fun a k q1 q2 q3 => f.2.1 a k (by omega)
  have eo : ∀ i, ord σ' i = ord σ i := fun i => by unfold ord; rw [e 68 i (by omega) (by omega) (by omega)]
  refine ⟨h1, by rw [f.1]; exact h2, by rw [f.2.1 57 5 (by omega)]; exact h3, by rw [f.2.1 2 2 (by omega)]; exact h4, fun m hm => ?_, fun m hm => ?_, fun m m' hm hm' => ?_, fun t ht => ?_, fun i hi => ?_, fun i j hij hj => ?_⟩
  · rw [e 61 m (by omega) (by omega) (by omega), e 62 m (by omega) (by omega) (by omega), e 63 m (by omega) (by omega) (by omega), e 64 m (by omega) (by omega) (by omega), e 65 m (by omega) (by omega) (by omega), e 66 m (by omega) (by omega) (by omega)]
    obtain ⟨q1, q2, q3, q4, q5, q6, q7⟩ := h5 m hm
    refine ⟨q1, q2, q3, q4, q5, q6, ?_⟩
    by_cases hmn : m = n
    · subst hmn
      rw [e2]
      exact Or.inr hv
    · rw [f.2.1 67 m (by omega)]
      exact q7
  · rw [e 61 m (by omega) (by omega) (by omega), e 62 m (by omega) (by omega) (by omega), e 63 m (by omega) (by omega) (by omega), e 64 m (by omega) (by omega) (by omega), e 65 m (by omega) (by omega) (by omega), e 66 m (by omega) (by omega) (by omega)]
    have ep : ∀ k, k ≠ 7 → gI σ' (84 + m) k = gI σ (84 + m) k := fun k q => f.2.1 _ k (by omega)
    obtain ⟨q1, q2, q3, q4, q5, q6, q7, q8⟩ := h6 m hm
    rw [ep 0 (by omega), ep 1 (by omega), ep 2 (by omega), ep 3 (by omega), ep 4 (by omega), ep 5 (by omega), ep 6 (by omega)]
    refine ⟨q1, q2, q3, q4, q5, q6, q7, ?_⟩
    by_cases hmn : m = n
    · subst hmn
      rw [e1, e2]
    · rw [f.2.1 67 m (by omega), f.2.1 (84 + m) 7 (by omega)]
      exact q8
  · rw [e 61 m (by omega) (by omega) (by omega), e 61 m' (by omega) (by omega) (by omega)]
    exact h7 m m' hm hm'
  · rw [f.2.2 3 t (by omega)]
    rcases h8 t ht with ⟨q1, q2⟩ | ⟨m, q1, q2, q3⟩
    · exact Or.inl ⟨q1, fun m hm => by rw [e 61 m (by omega) (by omega) (by omega)]; exact q2 m hm⟩
    · exact Or.inr ⟨m, q1, by rw [e 61 m (by omega) (by omega) (by omega)]; exact q2, q3⟩
  · rw [eo, e 68 i (by omega) (by omega) (by omega), f.2.2 4 i (by omega)]
    exact h9 i hi
  · unfold bef
    rw [eo, eo, e 62 _ (by omega) (by omega) (by omega), e 62 _ (by omega) (by omega) (by omega), e 61 _ (by omega) (by omega) (by omega), e 61 _ (by omega) (by omega) (by omega)]
    exact h10 i j hij hj
theorem nI_noNone {n : Nat} (h : n < 2147483648) : ¬ nI n = -1000000 := fun z => by
  have := congrArg Int32.toInt z
  rw [pi_nI h] at this
  have e : (-1000000 : Int32).toInt = -1000000 := rfl
  omega
theorem op_verdict {σ : aSt} (h : Inv σ) (p1 p2 : Int32) : Op (f_X11_verdict p1 p2) (f_X12_verdict p1 p2) σ := by
  obtain ⟨g1, g2, g3, g4, g5, N, b, R, g6, hp, g8, g9⟩ := h
  have h : Inv σ := ⟨g1, g2, g3, g4, g5, N, b, R, g6, hp, g8, g9⟩
  have e5 : gI (sI σ 57 0 0) 57 5 = nI N := by rw [thr_o 0 (Or.inr (by omega)), hp.2.2.1]
  have e61 : ∀ n, n < N → gI (sI σ 57 0 0) 61 n = gI σ 61 n := fun n _ => thr_o 0 (Or.inl (by omega))
  rcases s_look hp p1 with ⟨x1, x2⟩ | ⟨n, hn, x0, x1, x2⟩
  · refine ⟨-1000001, σ, sI σ 57 0 0, ?_, ?_, h.thr 0⟩
    · unfold f_X11_verdict
      rw [x1]
      rfl
    · unfold f_X12_verdict
      rw [x2 _ e5 e61]
      rfl
  · have ok := aP_ok hp hn
    have hN := hp.1
    have ib : inB (nI n) 120 := ix_in (by omega) (by omega)
    by_cases c : 0 ≤ p2 ∧ p2 ≤ 1
    · refine ⟨gI σ 67 n, sI σ (84 + n) 7 p2, sI (sI (sI σ (84 + n) 7 p2) 57 0 0) 67 n p2, ?_, ?_, ?_⟩
      · unfold f_X11_verdict
        rw [x1]
        simp only [Option.bind_some, oC_some]
        rw [s_within]
        simp only [Option.bind_some, bI_0, decide_eq_false_iff_not]
        rw [if_neg (not_not_intro c), if_pos ok, (hp.2.2.2.2.2.1 n hn).2.2.2.2.2.2.2]
      · unfold f_X12_verdict
        rw [x2 _ (by rw [thr_o 0 (Or.inr (by omega)), gI_other (Or.inl (by omega)), hp.2.2.1]) (fun m _ => by rw [thr_o 0 (Or.inl (by omega)), gI_other (Or.inl (by omega))])]
        simp only [Option.bind_some]
        rw [if_neg (nI_noNone (by omega)), s_in 0 1 0 1 rfl rfl]
        simp only [Option.bind_some, bI_0, decide_eq_false_iff_not]
        rw [if_neg (not_not_intro c), if_pos ib, if_pos ib, ix_cl (by omega), thr_o 0 (Or.inl (by omega)), gI_other (Or.inl (by omega))]
      · have hv : p2 = 0 ∨ p2 = 1 := by
          obtain ⟨k, hk, rfl⟩ := ix_rng (N := 2) rfl rfl c.1 c.2
          rcases (by omega : k = 0 ∨ k = 1) with rfl | rfl
          · exact Or.inl rfl
          · exact Or.inr rfl
        have f : Fr (fun a k => (a = 84 + n ∧ k = 7) ∨ (a = 67 ∧ k = n) ∨ (a = 57 ∧ k = 0)) σ (sI (sI (sI σ (84 + n) 7 p2) 57 0 0) 67 n p2) := ((Fr.sI Fr.rf (Or.inl ⟨rfl, rfl⟩)).sI (Or.inr (Or.inr ⟨rfl, rfl⟩))).sI (Or.inr (Or.inl ⟨rfl, rfl⟩))
        refine ⟨g1.fr f (fun a k q => by omega), g2.fr f (by omega) (by omega), g3.fr f (by omega) (by omega) (fun k => by omega) (fun k => by omega), g4.fr f (by omega) (by omega) (by omega) (by omega) (by omega) (by omega) (by omega) (by omega), g5.fr f (by omega) (by omega) (fun k => by omega) (fun k => by omega), N, b, R, ?_, hp.verd hn hv f ?_ ?_, g8.fr f (fun a k q => by unfold cBook; rcases g6 with ⟨z, -⟩ | ⟨z, -⟩ <;> omega), g9.fr f (fun a k q => ?_) (fun k => by omega) (fun k => by omega)⟩
        · rw [f.2.2 11 0 (by omega), f.2.2 0 8 (by omega)]
          exact g6
        · rw [gI_other (Or.inl (by omega)), gI_other (Or.inl (by omega)), gI_same]
        · rw [gI_same]
        · unfold pers
          simp only [Bool.or_eq_false_iff, Bool.and_eq_false_iff, decide_eq_false_iff_not]
          omega
    · refine ⟨-1000001, σ, sI σ 57 0 0, ?_, ?_, h.thr 0⟩
      · unfold f_X11_verdict f_X11_verdict_22
        rw [x1]
        simp only [Option.bind_some, oC_some]
        rw [s_within]
        simp only [Option.bind_some, bI_0, decide_eq_false_iff_not]
        rw [if_pos c]
      · unfold f_X12_verdict f_X12_verdict_27
        rw [x2 _ e5 e61]
        simp only [Option.bind_some]
        rw [if_neg (nI_noNone (by omega)), s_in 0 1 0 1 rfl rfl]
        simp only [Option.bind_some, bI_0, decide_eq_false_iff_not]
        rw [if_pos c]
/-- the sets that were kept are forgotten -/
theorem s_forget {σ : aSt} (hg : 84 ≤ gN σ) : ∃ σ', f_X2_forget σ = some ((), σ') ∧ Fr (fun a k => a = 23) σ σ' ∧ gL σ' = gL σ ∧ ∀ j, j < 240 → gI σ' 23 j = -1 := by
  obtain ⟨σ', e1, e2, e3, e4⟩ := s_fill 23 (-1) σ rfl (by decide) (by omega)
  refine ⟨σ', ?_, e2.mono (fun a k q => q.1), e3, fun j hj => e4 j (by show j < 240; exact hj)⟩
  unfold f_X2_forget
  rw [e1]
  rfl
theorem pCache.all {σ : aSt} {N R : Nat} (hN : N ≤ 120) (h : ∀ j, j < 240 → gI σ 23 j = -1) : pCache σ N R := fun n kn hn hk => Or.inl (h _ (by omega))
theorem mk_or {x w : Nat} (h : x.testBit w = true) : x ||| 2 ^ w = x := by
  apply Nat.eq_of_testBit_eq
  intro i
  rw [Nat.testBit_or, Nat.testBit_two_pow]
  by_cases hi : w = i
  · subst hi; simp [h]
  · simp [hi]
theorem mk_xo {x w : Nat} (h : x.testBit w = false) : x ||| 2 ^ w = x ^^^ 2 ^ w := by
  apply Nat.eq_of_testBit_eq
  intro i
  rw [Nat.testBit_or, Nat.testBit_xor, Nat.testBit_two_pow]
  by_cases hi : w = i
  · subst hi; simp [h]
  · simp [hi]
theorem mk_m1 : (-1 : Int32) = nI 4294967295 := by decide
theorem mk_ones (i : Nat) (h : i < 32) : (4294967295 : Nat).testBit i = true := by
  have : (4294967295 : Nat) = 2 ^ 32 - 1 := by decide
  rw [this, Nat.testBit_two_pow_sub_one]
  simp [h]
theorem mk_an {x w : Nat} (hx : x < 2 ^ 20) (h : x.testBit w = false) : x &&& (2 ^ w ^^^ 4294967295) = x := by
  apply Nat.eq_of_testBit_eq
  intro i
  rw [Nat.testBit_and, Nat.testBit_xor, Nat.testBit_two_pow]
  by_cases h32 : i < 32
  · rw [mk_ones i h32]
    by_cases hi : w = i
    · subst hi; simp [h]
    · simp [hi]
  · rw [Nat.testBit_lt_two_pow (Nat.lt_of_lt_of_le hx (Nat.pow_le_pow_right (by omega) (by omega)))]
    simp
theorem mk_ax {x w : Nat} (hx : x < 2 ^ 20) (hw : w < 20) (h : x.testBit w = true) : x &&& (2 ^ w ^^^ 4294967295) = x ^^^ 2 ^ w := by
  apply Nat.eq_of_testBit_eq
  intro i
  rw [Nat.testBit_and, Nat.testBit_xor, Nat.testBit_xor, Nat.testBit_two_pow]
  by_cases h32 : i < 32
  · rw [mk_ones i h32]
    by_cases hi : w = i
    · subst hi; simp [h]
    · simp [hi]
  · rw [Nat.testBit_lt_two_pow (x := x) (Nat.lt_of_lt_of_le hx (Nat.pow_le_pow_right (by omega) (by omega)))]
    have : ¬ w = i := by omega
    simp [this]
theorem mk_lt {x w : Nat} (hx : x < 2 ^ 20) (hw : w < 20) : x ^^^ 2 ^ w < 2 ^ 20 := Nat.xor_lt_two_pow hx (Nat.pow_lt_pow_right (by omega) hw)
/-- what a mark changes -/
theorem Inv.mk {σ σ' : aSt} (h : Inv σ) (f : Fr (fun a k => a = 23 ∨ (a = 2 ∧ k = 3) ∨ (a = 57 ∧ (k = 0 ∨ k = 14))) σ σ') (hm : pMark σ') (hz : ∀ j, j < 240 → gI σ' 23 j = -1) : Inv σ' := by
  obtain ⟨g1, g2, g3, g4, g5, N, b, R, g6, hp, g8, g9⟩ := h
  refine ⟨g1.fr f (fun a k q => by omega), hm, g3.fr f (by omega) (by omega) (fun k => by omega) (fun k => by omega), g4.fr f (by omega) (by omega) (by omega) (by omega) (by omega) (by omega) (by omega) (by omega), g5.fr f (by omega) (by omega) (fun k => by omega) (fun k => by omega), N, b, R, ?_, hp.fr f (fun a k q => by unfold cPay; omega), g8.fr f (fun a k q => by unfold cBook; rcases g6 with ⟨z, -⟩ | ⟨z, -⟩ <;> omega), pCache.all hp.1 hz⟩
  rw [f.2.2 11 0 (by omega), f.2.2 0 8 (by omega)]
  exact g6
theorem op_mark {σ : aSt} (h : Inv σ) (p1 p2 : Int32) : Op (f_X11_mark p1 p2) (f_X12_mark p1 p2) σ := by
  have bad : ¬ (0 ≤ p1 ∧ p1 ≤ 19) ∨ ¬ (0 ≤ p2 ∧ p2 ≤ 1) → Op (f_X11_mark p1 p2) (f_X12_mark p1 p2) σ := by
    intro hb
    refine ⟨-1000001, σ, sI σ 57 0 0, ?_, ?_, h.thr 0⟩
    · unfold f_X11_mark f_X11_mark_19
      rw [s_within]
      simp only [Option.bind_some, bI_0, decide_eq_false_iff_not]
      by_cases c1 : 0 ≤ p1 ∧ p1 ≤ 19
      · rw [if_neg (not_not_intro c1), s_within]
        simp only [Option.bind_some, bI_0, decide_eq_false_iff_not]
        rw [if_pos (hb.resolve_left (not_not_intro c1))]
      · rw [if_pos c1]
    · unfold f_X12_mark f_X12_mark_27
      rw [s_in 0 19 0 19 rfl rfl]
      simp only [Option.bind_some, bI_0, decide_eq_false_iff_not]
      by_cases c1 : 0 ≤ p1 ∧ p1 ≤ 19
      · rw [if_neg (not_not_intro c1), s_in 0 1 0 1 rfl rfl]
        simp only [Option.bind_some, bI_0, decide_eq_false_iff_not]
        rw [if_pos (hb.resolve_left (not_not_intro c1))]
      · rw [if_pos c1]
  by_cases c1 : 0 ≤ p1 ∧ p1 ≤ 19
  case neg => exact bad (Or.inl c1)
  by_cases c2 : 0 ≤ p2 ∧ p2 ≤ 1
  case neg => exact bad (Or.inr c2)
  obtain ⟨w, hw, rfl⟩ := ix_rng (N := 20) rfl rfl c1.1 c1.2
  obtain ⟨v, hv, rfl⟩ := ix_rng (N := 2) rfl rfl c2.1 c2.2
  obtain ⟨m1, x, hx, m2⟩ := h.2.1
  have hx20 : x < 2 ^ 20 := hx
  have hmod : x / 2 ^ w % 2 < 2 := Nat.mod_lt _ (by omega)
  have xs : f_X11_mark (nI w) (nI v) σ = if x / 2 ^ w % 2 = v then some (0, σ) else (f_X3_turnMark (nI w) σ).bind (fun q11 => (f_X2_forget q11.2).bind (fun q13 => some (1, q13.2))) := by
    unfold f_X11_mark f_X11_mark_40 f_X3_isMarked f_X3_isMarked_17
    rw [s_within]
    simp only [Option.bind_some, bI_0, decide_eq_false_iff_not]
    rw [if_neg (not_not_intro c1), s_within]
    simp only [Option.bind_some, bI_0, decide_eq_false_iff_not]
    rw [if_neg (not_not_intro c2), m1, m2, nb_get (by omega) (by omega)]
    rcases (by omega : x / 2 ^ w % 2 = 0 ∨ x / 2 ^ w % 2 = 1) with z | z <;> rcases (by omega : v = 0 ∨ v = 1) with rfl | rfl <;> rw [z] <;> rfl
  have ms : ∀ τ : aSt, gI τ 57 14 = nI x → f_X12_mark (nI w) (nI v) τ = some (if x / 2 ^ w % 2 = v then 0 else 1, sI (sI τ 57 0 0) 57 14 (if v = 1 then nI (x ||| 2 ^ w) else nI (x &&& (2 ^ w ^^^ 4294967295)))) := by
    intro τ t1
    unfold f_X12_mark f_X12_mark_47 f_X12_mark_75 f_X12_mark_87
    rw [s_in 0 19 0 19 rfl rfl]
    simp only [Option.bind_some, bI_0, decide_eq_false_iff_not]
    rw [if_neg (not_not_intro c1), s_in 0 1 0 1 rfl rfl]
    simp only [Option.bind_some, bI_0, decide_eq_false_iff_not]
    rw [if_neg (not_not_intro c2), thr_o 0 (Or.inr (by omega)), t1, nb_get (by omega) (by omega), nb_bit (by omega), nb_or, mk_m1, nb_xor, nb_and]
    rcases (by omega : x / 2 ^ w % 2 = 0 ∨ x / 2 ^ w % 2 = 1) with z | z <;> rcases (by omega : v = 0 ∨ v = 1) with rfl | rfl <;> rw [z] <;> rfl
  by_cases c : x / 2 ^ w % 2 = v
  · refine ⟨0, σ, _, by rw [xs, if_pos c], by rw [ms σ m2, if_pos c], ?_⟩
    have hsame : (if v = 1 then nI (x ||| 2 ^ w) else nI (x &&& (2 ^ w ^^^ 4294967295))) = nI x := by
      rcases (by omega : v = 0 ∨ v = 1) with rfl | rfl
      · rw [if_neg (by omega), mk_an hx20]
        cases hb : x.testBit w with
        | true => rw [(nb_tb x w).mpr hb] at c; omega
        | false => rfl
      · rw [if_pos rfl, mk_or ((nb_tb x w).mp c)]
    rw [hsame]
    obtain ⟨g1, g2, g3, g4, g5, N, b, R, g6, hp, g8, g9⟩ := h
    have hI : Inv (sI σ 57 0 0) := Inv.thr ⟨g1, g2, g3, g4, g5, N, b, R, g6, hp, g8, g9⟩ 0
    have same : sI (sI σ 57 0 0) 57 14 (nI x) = sI σ 57 0 0 := by
      have hrow : gI (sI (sI σ 57 0 0) 57 14 (nI x)) = gI (sI σ 57 0 0) := by
        funext a k
        by_cases ha : a = 57 ∧ k = 14
        · obtain ⟨rfl, rfl⟩ := ha
          rw [gI_same, thr_o 0 (Or.inr (by omega)), m2]
        · exact gI_other (by omega)
      show ((gI (sI (sI σ 57 0 0) 57 14 (nI x)), σ.2) : aSt) = (gI (sI σ 57 0 0), σ.2)
      rw [hrow]
    rw [same]
    exact hI
  · have hg := h.gn
    obtain ⟨σ1, e1, e2, e3, e4⟩ := s_forget (σ := sI σ 2 3 (nI x ^^^ nI (2 ^ w))) hg
    have xo : (if v = 1 then nI (x ||| 2 ^ w) else nI (x &&& (2 ^ w ^^^ 4294967295))) = nI (x ^^^ 2 ^ w) := by
      rcases (by omega : v = 0 ∨ v = 1) with rfl | rfl
      · rw [if_neg (by omega), mk_ax hx20 hw ((nb_tb x w).mp (by omega))]
      · rw [if_pos rfl, mk_xo]
        cases hb : x.testBit w with
        | true => rw [(nb_tb x w).mpr hb] at c; omega
        | false => rfl
    have s14 : gI σ1 57 14 = nI x := by rw [e2.2.1 57 14 (by omega), gI_other (Or.inl (by omega)), m2]
    refine ⟨1, σ1, _, ?_, by rw [ms σ1 s14, if_neg c], ?_⟩
    · rw [xs, if_neg c]
      unfold f_X3_turnMark
      simp only [Option.bind_some]
      rw [m1, m2, nb_bit (by omega), e1]
      rfl
    · rw [xo]
      have f0 : Fr (fun a k => a = 23 ∨ (a = 2 ∧ k = 3) ∨ (a = 57 ∧ (k = 0 ∨ k = 14))) σ (sI σ 2 3 (nI x ^^^ nI (2 ^ w))) := Fr.sI Fr.rf (Or.inr (Or.inl ⟨rfl, rfl⟩))
      have ff : Fr (fun a k => a = 23 ∨ (a = 2 ∧ k = 3) ∨ (a = 57 ∧ (k = 0 ∨ k = 14))) σ (sI (sI σ1 57 0 0) 57 14 (nI (x ^^^ 2 ^ w))) := ((f0.tr (e2.mono (fun a k q => Or.inl q))).sI (Or.inr (Or.inr ⟨rfl, Or.inl rfl⟩))).sI (Or.inr (Or.inr ⟨rfl, Or.inr rfl⟩))
      refine h.mk ff ⟨?_, x ^^^ 2 ^ w, mk_lt hx20 hw, ?_⟩ (fun j hj => ?_)
      · rw [gI_same, gI_other (Or.inl (by omega)), gI_other (Or.inl (by omega)), e2.2.1 2 3 (by omega), gI_same, nb_xor]
      · rw [gI_same]
      · rw [gI_other (Or.inl (by omega)), gI_other (Or.inl (by omega)), e4 j hj]
