/-! ===== feed ===== -/
theorem fd_byte (z : Int64) : ∃ c, c < 256 ∧ (z &&& 255).toInt32 = nI c ∧ vp_nar .byte (z.toInt32.toInt8.toInt32) = (nI c).toInt8.toInt32 := by
  refine ⟨z.toBitVec.toNat % 256, Nat.mod_lt _ (by decide), ?_, ?_⟩
  · apply Int32.toBitVec_inj.mp
    apply BitVec.eq_of_toNat_eq
    have e : z.toBitVec.toNat &&& 255 = z.toBitVec.toNat % 256 := Nat.and_two_pow_sub_one_eq_mod _ 8
    have h1 : (z &&& 255).toInt32.toBitVec = (z.toBitVec &&& 255#64).setWidth 32 := by
      rw [Int64.toBitVec_toInt32, BitVec.signExtend_eq_setWidth_of_le _ (by omega)]
      rfl
    rw [h1, BitVec.toNat_setWidth, BitVec.toNat_and]
    show (z.toBitVec.toNat &&& 255) % 2 ^ 32 = (z.toBitVec.toNat % 256) % 2 ^ 32
    rw [e]
  · have : z.toInt32.toInt8 = (nI (z.toBitVec.toNat % 256)).toInt8 := by
      apply Int8.toBitVec_inj.mp
      apply BitVec.eq_of_toNat_eq
      rw [Int32.toBitVec_toInt8, Int32.toBitVec_toInt8, BitVec.signExtend_eq_setWidth_of_le _ (by omega), BitVec.signExtend_eq_setWidth_of_le _ (by omega), Int64.toBitVec_toInt32, BitVec.signExtend_eq_setWidth_of_le _ (by omega), BitVec.toNat_setWidth, BitVec.toNat_setWidth, BitVec.toNat_setWidth]
      show z.toBitVec.toNat % 2 ^ 32 % 2 ^ 8 = (z.toBitVec.toNat % 256) % 2 ^ 32 % 2 ^ 8
      omega
    rw [← this]
    show ((z.toInt32.toInt8.toInt32).toInt8).toInt32 = _
    simp
/-- the place of the next byte -/
theorem s_addL {w : Int64} : ∀ (d f n : Nat) (σ : aSt), d < f → n + d ≤ 600 → gI σ 5 3 = nI n → ∃ σ', f_X10_add_5 f w (nI d - 1) σ = some ((), σ') ∧ Fr (fun a k => (a = 5 ∧ k = 3) ∨ a = 9) σ σ' ∧ gI σ' 5 3 = nI (n + d) ∧ (∀ i, i < n → gI σ' 9 i = gI σ 9 i) ∧ ∀ i, i < d → gI σ' 9 (n + i) = vp_nar .byte ((w >>> ((8 * nI (d - 1 - i)).toInt64 &&& 63)).toInt32.toInt8.toInt32) := by
  intro d
  induction d with
  | zero =>
    intro f n σ hf hn h
    obtain ⟨f, rfl⟩ : ∃ f', f = f' + 1 := ⟨f - 1, by omega⟩
    refine ⟨σ, ?_, Fr.rf, h, fun _ _ => rfl, fun i hi => absurd hi (Nat.not_lt_zero _)⟩
    show f_X10_add_5_b (f_X10_add_5 f) w (nI 0 - 1) σ = _
    unfold f_X10_add_5_b
    rw [if_pos (by decide)]
    rfl
  | succ d ih =>
    intro f n σ hf hn h
    obtain ⟨f, rfl⟩ : ∃ f', f = f' + 1 := ⟨f - 1, by omega⟩
    generalize hv : vp_nar .byte ((w >>> ((8 * nI d).toInt64 &&& 63)).toInt32.toInt8.toInt32) = v
    obtain ⟨σ', e1, e2, e3, e4, e5⟩ := ih f (n + 1) (sI (sI σ 9 n v) 5 3 (nI (n + 1))) (by omega) (by omega) (gI_same _ _ _ _)
    refine ⟨σ', ?_, ((Fr.sI Fr.rf (Or.inr rfl)).sI (Or.inl ⟨rfl, rfl⟩)).tr e2, by rw [e3]; congr 1; omega, fun i hi => ?_, fun i hi => ?_⟩
    · show f_X10_add_5_b (f_X10_add_5 f) w (nI (d + 1) - 1) σ = _
      unfold f_X10_add_5_b
      rw [nI_s1, if_neg (nI_neg (by omega)), h, if_neg (fun q => by rw [show (600 : Int32) = nI 600 from rfl, nI_leI (by omega) (by omega)] at q; omega), if_pos (ix_in (by omega) (by omega)), ix_cl (by omega), hv, gI_other (Or.inl (by omega)), h, nI_1]
      rw [show nI d + (-1) = nI d - 1 from (Int32.sub_eq_add_neg _ _).symm]
      exact e1
    · rw [e4 i (by omega), gI_other (Or.inl (by omega)), gI_other (Or.inr (by omega))]
    · cases i with
      | zero =>
        rw [Nat.add_zero, e4 n (by omega), gI_other (Or.inl (by omega)), gI_same, ← hv]
        rfl
      | succ i =>
        have := e5 i (by omega)
        rw [show n + (i + 1) = n + 1 + i by omega, this, show d + 1 - 1 - (i + 1) = d - 1 - i by omega]
theorem s_feedL {w : Int64} : ∀ (d f n : Nat) (σ : aSt), d < f → n + d ≤ 600 → gI σ 57 30 = nI n → ∃ σ', f_X12_feed_40 f w (nI d - 1) σ = some (nI (n + d), σ') ∧ Fr (fun a k => (a = 57 ∧ k = 30) ∨ a = 77) σ σ' ∧ gI σ' 57 30 = nI (n + d) ∧ (∀ i, i < n → gI σ' 77 i = gI σ 77 i) ∧ ∀ i, i < d → gI σ' 77 (n + i) = ((w >>> ((8 * nI (d - 1 - i)).toInt64 &&& 63)) &&& 255).toInt32 := by
  intro d
  induction d with
  | zero =>
    intro f n σ hf hn h
    obtain ⟨f, rfl⟩ : ∃ f', f = f' + 1 := ⟨f - 1, by omega⟩
    refine ⟨σ, ?_, Fr.rf, h, fun _ _ => rfl, fun i hi => absurd hi (Nat.not_lt_zero _)⟩
    show f_X12_feed_40_b (f_X12_feed_40 f) w (nI 0 - 1) σ = _
    unfold f_X12_feed_40_b
    rw [if_pos (by decide), h]
    rfl
  | succ d ih =>
    intro f n σ hf hn h
    obtain ⟨f, rfl⟩ : ∃ f', f = f' + 1 := ⟨f - 1, by omega⟩
    generalize hv : ((w >>> ((8 * nI d).toInt64 &&& 63)) &&& 255).toInt32 = v
    obtain ⟨σ', e1, e2, e3, e4, e5⟩ := ih f (n + 1) (sI (sI σ 77 n v) 57 30 (nI (n + 1))) (by omega) (by omega) (gI_same _ _ _ _)
    refine ⟨σ', ?_, ((Fr.sI Fr.rf (Or.inr rfl)).sI (Or.inl ⟨rfl, rfl⟩)).tr e2, by rw [e3]; congr 1; omega, fun i hi => ?_, fun i hi => ?_⟩
    · show f_X12_feed_40_b (f_X12_feed_40 f) w (nI (d + 1) - 1) σ = _
      unfold f_X12_feed_40_b
      rw [nI_s1, if_neg (nI_neg (by omega)), h, if_pos (ix_in (by omega) (by omega)), ix_cl (by omega), hv, gI_other (Or.inl (by omega)), h, nI_1]
      rw [show n + (d + 1) = n + 1 + d by omega]
      rw [show nI d + (-1) = nI d - 1 from (Int32.sub_eq_add_neg _ _).symm]
      exact e1
    · rw [e4 i (by omega), gI_other (Or.inl (by omega)), gI_other (Or.inr (by omega))]
    · cases i with
      | zero =>
        rw [Nat.add_zero, e4 n (by omega), gI_other (Or.inl (by omega)), gI_same, ← hv]
        rfl
      | succ i =>
        have := e5 i (by omega)
        rw [show n + (i + 1) = n + 1 + i by omega, this, show d + 1 - 1 - (i + 1) = d - 1 - i by omega]
theorem op_feed {σ : aSt} (h : Inv σ) (w : Int64) (p3 : Int32) : Op (f_X11_feed w p3) (f_X12_feed w p3) σ := by
  by_cases c1 : 1 ≤ p3 ∧ p3 ≤ 8
  case neg =>
    refine ⟨-1000001, σ, sI σ 57 0 0, ?_, ?_, h.thr 0⟩
    · unfold f_X11_feed
      rw [s_within]
      simp only [Option.bind_some, bI_0, decide_eq_false_iff_not]
      rw [if_pos c1]
    · unfold f_X12_feed
      rw [s_in 1 8 1 8 rfl rfl]
      simp only [Option.bind_some, bI_0, decide_eq_false_iff_not]
      rw [if_pos c1]
  obtain ⟨d, ⟨hd1, hd2⟩, rfl⟩ : ∃ n, (1 ≤ n ∧ n ≤ 8) ∧ p3 = nI n := by
    have q := c1
    rw [pi_le, pi_le] at q
    have z1 : (1 : Int32).toInt = 1 := rfl
    have z2 : (8 : Int32).toInt = 8 := rfl
    exact ⟨p3.toInt.toNat, by omega, pi_of (by omega)⟩
  obtain ⟨n, hn, t1, t2, t3⟩ := h.2.2.1
  have k1 : (nI d ≤ 600 - nI n) = (n + d ≤ 600) := by
    have z2 : (600 : Int32).toInt = 600 := rfl
    rw [pi_le, pi_nI (by omega), pi_sub (by rw [pi_nI (by omega)]; omega) (by rw [pi_nI (by omega)]; omega), pi_nI (by omega)]
    apply propext
    omega
  have k2 : (nI n + nI d ≤ 600) = (n + d ≤ 600) := by
    rw [nI_add, show (600 : Int32) = nI 600 from rfl, nI_leI (by omega) (by omega)]
  have xs : f_X11_feed w (nI d) σ = if n + d ≤ 600 then (f_X10_add w (nI d) σ).bind (fun q5 => some (gI q5.2 5 3, q5.2)) else some (-1000003, σ) := by
    unfold f_X11_feed
    rw [s_within]
    simp only [Option.bind_some, bI_0, decide_eq_false_iff_not]
    rw [if_neg (not_not_intro c1), t1]
    simp only [k1]
  have ms : ∀ τ : aSt, gI τ 57 30 = nI n → f_X12_feed w (nI d) τ = if n + d ≤ 600 then f_X12_feed_40 aN w (nI d - 1) (sI τ 57 0 0) else some (-1000003, sI τ 57 0 0) := by
    intro τ ht
    unfold f_X12_feed
    rw [s_in 1 8 1 8 rfl rfl]
    simp only [Option.bind_some, bI_0, decide_eq_false_iff_not]
    rw [if_neg (not_not_intro c1), gI_other (Or.inr (by omega)), ht]
    simp only [k2]
  by_cases c2 : n + d ≤ 600
  · obtain ⟨σ1, a1, a2, a3, a4, a5⟩ := s_addL (w := w) d aN n σ (by show d < 1000000; omega) c2 t1
    have h30 : gI σ1 57 30 = nI n := by rw [a2.2.1 57 30 (by omega), t2]
    obtain ⟨σ2, b1, b2, b3, b4, b5⟩ := s_feedL (w := w) d aN n (sI σ1 57 0 0) (by show d < 1000000; omega) c2 (by rw [gI_other (Or.inr (by omega))]; exact h30)
    refine ⟨nI (n + d), σ1, σ2, ?_, ?_, ?_⟩
    · rw [xs, if_pos c2]
      unfold f_X10_add
      rw [a1]
      simp only [Option.bind_some]
      rw [a3]
    · rw [ms σ1 h30, if_pos c2, b1]
    · have F : Fr cTp σ σ2 := ((a2.mono (fun a k q => by
        rcases q with ⟨q1, q2⟩ | q
        · exact Or.inr (Or.inl ⟨q1, q2⟩)
        · exact Or.inr (Or.inr (Or.inl q)))).sI (Or.inl (by simp [scr]))).tr (b2.mono (fun a k q => by
        rcases q with ⟨q1, q2⟩ | q
        · exact Or.inr (Or.inr (Or.inr (Or.inr ⟨q1, q2⟩)))
        · exact Or.inr (Or.inr (Or.inr (Or.inl q)))))
      refine h.tp F ⟨n + d, c2, ?_, b3, fun i hi => ?_⟩
      · rw [b2.2.1 5 3 (by omega), gI_other (Or.inl (by omega)), a3]
      · rw [b2.2.1 9 i (by omega), gI_other (Or.inl (by omega))]
        by_cases z : i < n
        · rw [b4 i z, gI_other (Or.inl (by omega)), a2.2.1 77 i (by omega), a4 i z]
          exact t3 i z
        · obtain ⟨j, rfl⟩ : ∃ j, i = n + j := ⟨i - n, by omega⟩
          rw [b5 j (by omega), a5 j (by omega)]
          exact fd_byte _
  · exact ⟨-1000003, σ, sI σ 57 0 0, by rw [xs, if_neg c2], by rw [ms σ t2, if_neg c2], h.thr 0⟩
