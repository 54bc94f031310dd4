theorem dX10_wordAt_0 : decode cX10_wordAt 0 = .ok (.iconst 0, 1) := by decide +kernel
theorem dX10_wordAt_1 : decode cX10_wordAt 1 = .ok (.istore_n 3, 1) := by decide +kernel
theorem dX10_wordAt_2 : decode cX10_wordAt 2 = .ok (.iload_n 3, 1) := by decide +kernel
theorem dX10_wordAt_3 : decode cX10_wordAt 3 = .ok (.bipush 17, 2) := by decide +kernel
theorem dX10_wordAt_5 : decode cX10_wordAt 5 = .ok (.if_icmp .ge 26, 3) := by decide +kernel
theorem dX10_wordAt_8 : decode cX10_wordAt 8 = .ok (.aload_n 0, 1) := by decide +kernel
theorem dX10_wordAt_9 : decode cX10_wordAt 9 = .ok (.iload_n 3, 1) := by decide +kernel
theorem dX10_wordAt_10 : decode cX10_wordAt 10 = .ok (.bipush 7, 2) := by decide +kernel
theorem dX10_wordAt_12 : decode cX10_wordAt 12 = .ok (.imul, 1) := by decide +kernel
theorem dX10_wordAt_13 : decode cX10_wordAt 13 = .ok (.iload_n 1, 1) := by decide +kernel
theorem dX10_wordAt_14 : decode cX10_wordAt 14 = .ok (.iload_n 2, 1) := by decide +kernel
theorem dX10_wordAt_15 : decode cX10_wordAt 15 = .ok (.iload_n 1, 1) := by decide +kernel
theorem dX10_wordAt_16 : decode cX10_wordAt 16 = .ok (.isub, 1) := by decide +kernel
theorem dX10_wordAt_17 : decode cX10_wordAt 17 = .ok (.invokevirtual 61, 3) := by decide +kernel
theorem dX10_wordAt_20 : decode cX10_wordAt 20 = .ok (.ifCond .eq 5, 3) := by decide +kernel
theorem dX10_wordAt_23 : decode cX10_wordAt 23 = .ok (.iload_n 3, 1) := by decide +kernel
theorem dX10_wordAt_24 : decode cX10_wordAt 24 = .ok (.ireturn, 1) := by decide +kernel
theorem dX10_wordAt_25 : decode cX10_wordAt 25 = .ok (.iinc 3 1, 3) := by decide +kernel
theorem dX10_wordAt_28 : decode cX10_wordAt 28 = .ok (.goto (-26), 3) := by decide +kernel
theorem dX10_wordAt_31 : decode cX10_wordAt 31 = .ok (.bipush 17, 2) := by decide +kernel
theorem dX10_wordAt_33 : decode cX10_wordAt 33 = .ok (.ireturn, 1) := by decide +kernel
theorem kd_X10_wordAt : aKd m_X10_wordAt 2 := ⟨wd_24_16, wd_1_21, ⟨by decide +kernel, by decide +kernel, by decide +kernel⟩⟩
set_option maxRecDepth 100000 in
set_option maxHeartbeats 4000000 in
theorem l_X10_wordAt_2_b (rec2 : Int32 → Int32 → Int32 → aSt → Option (Int32 × aSt)) (hrec2 : ∀ (x1 : Int32) (x2 : Int32) (x3 : Int32) (σ : aSt) (o : Int32 × aSt), rec2 x1 x2 x3 σ = some o → AW true m_X10_wordAt 2 [(0, va_rf (some (5))), (1, Value.int (x1)), (2, Value.int (x2)), (3, Value.int (x3))] [] σ 0 0 (some (.int o.1)) o.2) (x1 : Int32) (x2 : Int32) (x3 : Int32) (σ : aSt) (o : Int32 × aSt) (h : f_X10_wordAt_2_b rec2 x1 x2 x3 σ = some o) : AW true m_X10_wordAt 2 [(0, va_rf (some (5))), (1, Value.int (x1)), (2, Value.int (x2)), (3, Value.int (x3))] [] σ 0 0 (some (.int o.1)) o.2 := by
  unfold f_X10_wordAt_2_b at h
  refine w_iload_n 3 dX10_wordAt_2 rfl rfl ?_
  refine w_bipush (v := 17) dX10_wordAt_3 (by decide) ?_
  refine w_icmp_ge 31 dX10_wordAt_5 (by decide) (fun c1 => ?_) (fun c1 => ?_)
  · replace h := e_t c1 h
    refine w_bipush (v := 17) dX10_wordAt_31 (by decide) ?_
    obtain rfl := Option.some.inj h
    exact w_ireturn dX10_wordAt_33 rfl (Nat.le_of_ble_eq_true rfl) (Nat.le_of_ble_eq_true rfl)
  · replace h := e_f c1 h
    refine w_aload_n 0 ((some (5))) dX10_wordAt_8 rfl rfl ?_
    refine w_iload_n 3 dX10_wordAt_9 rfl rfl ?_
    refine w_bipush (v := 7) dX10_wordAt_10 (by decide) ?_
    refine w_imul dX10_wordAt_12 ?_
    refine w_iload_n 1 dX10_wordAt_13 rfl rfl ?_
    refine w_iload_n 2 dX10_wordAt_14 rfl rfl ?_
    refine w_iload_n 1 dX10_wordAt_15 rfl rfl ?_
    refine w_isub dX10_wordAt_16 ?_
    replace h := e_bind h; obtain ⟨q2, e3, h⟩ := h
    refine w_callV1 (M2 := m_X10_isSpelt) (av := [.int (x3 * 7), .int (x1), .int (x2 - x1)]) (ci := 10) (c_X10_isSpelt _ _ _ _ _ e3) dX10_wordAt_17 kd_X10_isSpelt wd_24_17 wd_24_18 wd_24_19 rfl rfl ⟨rfl, Or.inr ⟨rfl, by decide⟩⟩ rfl ⟨Nat.le_of_ble_eq_true rfl, Nat.le_of_ble_eq_true rfl, Nat.le_of_ble_eq_true rfl, Nat.le_of_ble_eq_true rfl⟩ (Nat.le_of_ble_eq_true rfl) ?_
    refine w_if_eq 25 dX10_wordAt_20 (by decide) (fun c4 => ?_) (fun c4 => ?_)
    · replace h := e_t c4 h
      refine w_iinc (q := 3) (v := x3 + 1) dX10_wordAt_25 rfl rfl (by decide) rfl ?_
      refine w_goto 2 dX10_wordAt_28 (by decide) ?_
      refine w_sub [1, 2, 3, 0] rfl ?_
      exact hrec2 _ _ _ _ _ h
    · replace h := e_f c4 h
      refine w_iload_n 3 dX10_wordAt_23 rfl rfl ?_
      obtain rfl := Option.some.inj h
      exact w_ireturn dX10_wordAt_24 rfl (Nat.le_of_ble_eq_true rfl) (Nat.le_of_ble_eq_true rfl)
theorem l_X10_wordAt_2  : ∀ (n : Nat) (x1 : Int32) (x2 : Int32) (x3 : Int32) (σ : aSt) (o : Int32 × aSt), f_X10_wordAt_2  n x1 x2 x3 σ = some o → AW true m_X10_wordAt 2 [(0, va_rf (some (5))), (1, Value.int (x1)), (2, Value.int (x2)), (3, Value.int (x3))] [] σ 0 0 (some (.int o.1)) o.2
  | 0 => fun x1 x2 x3 σ o h => by cases h
  | n + 1 => fun x1 x2 x3 σ o h => l_X10_wordAt_2_b (f_X10_wordAt_2  n) (l_X10_wordAt_2  n) x1 x2 x3 σ o h
set_option maxRecDepth 100000 in
set_option maxHeartbeats 4000000 in
theorem c_X10_wordAt (p1 : Int32) (p2 : Int32) (σ : aSt) (o : Int32 × aSt) (h : f_X10_wordAt p1 p2 σ = some o) : AM true m_X10_wordAt [va_rf (some (5)), .int (p1), .int (p2)] σ (some (.int o.1)) o.2 := by
  refine AM_of2 (lv := [(0, va_rf (some (5))), (1, Value.int (p1)), (2, Value.int (p2))]) (by decide +kernel) rfl (Nat.le_of_ble_eq_true rfl) ?_
  unfold f_X10_wordAt at h
  refine w_iconst (v := 0) dX10_wordAt_0 (by decide) ?_
  refine w_istore_n dX10_wordAt_1 rfl (by decide) rfl ?_
  refine w_sub [1, 2, 3, 0] rfl ?_
  exact l_X10_wordAt_2 aN _ _ _ _ _ h
theorem dX10_numberAt_0 : decode cX10_numberAt 0 = .ok (.iconst 0, 1) := by decide +kernel
theorem dX10_numberAt_1 : decode cX10_numberAt 1 = .ok (.istore_n 3, 1) := by decide +kernel
theorem dX10_numberAt_2 : decode cX10_numberAt 2 = .ok (.iload_n 1, 1) := by decide +kernel
theorem dX10_numberAt_3 : decode cX10_numberAt 3 = .ok (.istore 4, 2) := by decide +kernel
theorem dX10_numberAt_5 : decode cX10_numberAt 5 = .ok (.iload 4, 2) := by decide +kernel
theorem dX10_numberAt_7 : decode cX10_numberAt 7 = .ok (.iload_n 2, 1) := by decide +kernel
theorem dX10_numberAt_8 : decode cX10_numberAt 8 = .ok (.if_icmp .ge 34, 3) := by decide +kernel
theorem dX10_numberAt_11 : decode cX10_numberAt 11 = .ok (.iload 4, 2) := by decide +kernel
theorem dX10_numberAt_13 : decode cX10_numberAt 13 = .ok (.aload_n 0, 1) := by decide +kernel
theorem dX10_numberAt_14 : decode cX10_numberAt 14 = .ok (.getfield 19, 3) := by decide +kernel
theorem dX10_numberAt_17 : decode cX10_numberAt 17 = .ok (.if_icmp .ge 25, 3) := by decide +kernel
theorem dX10_numberAt_20 : decode cX10_numberAt 20 = .ok (.iload_n 3, 1) := by decide +kernel
theorem dX10_numberAt_21 : decode cX10_numberAt 21 = .ok (.bipush 10, 2) := by decide +kernel
theorem dX10_numberAt_23 : decode cX10_numberAt 23 = .ok (.imul, 1) := by decide +kernel
theorem dX10_numberAt_24 : decode cX10_numberAt 24 = .ok (.aload_n 0, 1) := by decide +kernel
theorem dX10_numberAt_25 : decode cX10_numberAt 25 = .ok (.getfield 23, 3) := by decide +kernel
theorem dX10_numberAt_28 : decode cX10_numberAt 28 = .ok (.iload 4, 2) := by decide +kernel
theorem dX10_numberAt_30 : decode cX10_numberAt 30 = .ok (.baload, 1) := by decide +kernel
theorem dX10_numberAt_31 : decode cX10_numberAt 31 = .ok (.iadd, 1) := by decide +kernel
theorem dX10_numberAt_32 : decode cX10_numberAt 32 = .ok (.bipush 48, 2) := by decide +kernel
theorem dX10_numberAt_34 : decode cX10_numberAt 34 = .ok (.isub, 1) := by decide +kernel
theorem dX10_numberAt_35 : decode cX10_numberAt 35 = .ok (.istore_n 3, 1) := by decide +kernel
theorem dX10_numberAt_36 : decode cX10_numberAt 36 = .ok (.iinc 4 1, 3) := by decide +kernel
theorem dX10_numberAt_39 : decode cX10_numberAt 39 = .ok (.goto (-34), 3) := by decide +kernel
theorem dX10_numberAt_42 : decode cX10_numberAt 42 = .ok (.iload_n 3, 1) := by decide +kernel
theorem dX10_numberAt_43 : decode cX10_numberAt 43 = .ok (.ireturn, 1) := by decide +kernel
theorem kd_X10_numberAt : aKd m_X10_numberAt 2 := ⟨wd_27_1, wd_1_21, ⟨by decide +kernel, by decide +kernel, by decide +kernel⟩⟩
set_option maxRecDepth 100000 in
set_option maxHeartbeats 4000000 in
theorem l_X10_numberAt_42  (x3 : Int32) (σ : aSt) (o : Int32 × aSt) (h : f_X10_numberAt_42  x3 σ = some o) : AW true m_X10_numberAt 42 [(3, Value.int (x3))] [] σ 0 0 (some (.int o.1)) o.2 := by
  unfold f_X10_numberAt_42 at h
  refine w_iload_n 0 dX10_numberAt_42 rfl rfl ?_
  obtain rfl := Option.some.inj h
  exact w_ireturn dX10_numberAt_43 rfl (Nat.le_of_ble_eq_true rfl) (Nat.le_of_ble_eq_true rfl)
set_option maxRecDepth 100000 in
set_option maxHeartbeats 4000000 in
theorem l_X10_numberAt_5_b (rec5 : Int32 → Int32 → Int32 → aSt → Option (Int32 × aSt)) (hrec5 : ∀ (x2 : Int32) (x3 : Int32) (x4 : Int32) (σ : aSt) (o : Int32 × aSt), rec5 x2 x3 x4 σ = some o → AW true m_X10_numberAt 5 [(0, va_rf (some (5))), (2, Value.int (x2)), (3, Value.int (x3)), (4, Value.int (x4))] [] σ 0 0 (some (.int o.1)) o.2) (x2 : Int32) (x3 : Int32) (x4 : Int32) (σ : aSt) (o : Int32 × aSt) (h : f_X10_numberAt_5_b rec5 x2 x3 x4 σ = some o) : AW true m_X10_numberAt 5 [(0, va_rf (some (5))), (2, Value.int (x2)), (3, Value.int (x3)), (4, Value.int (x4))] [] σ 0 0 (some (.int o.1)) o.2 := by
  unfold f_X10_numberAt_5_b at h
  refine w_iload 3 dX10_numberAt_5 rfl ?_
  refine w_iload_n 1 dX10_numberAt_7 rfl rfl ?_
  refine w_icmp_ge 42 dX10_numberAt_8 (by decide) (fun c1 => ?_) (fun c1 => ?_)
  · replace h := e_t c1 h
    refine w_sub [2] rfl ?_
    exact l_X10_numberAt_42 _ _ _ h
  · replace h := e_f c1 h
    refine w_iload 3 dX10_numberAt_11 rfl ?_
    refine w_aload_n 0 ((some (5))) dX10_numberAt_13 rfl rfl ?_
    refine w_get dX10_numberAt_14 fl_RX10_19 ⟨rfl, Or.inr ⟨rfl, by decide⟩⟩ (aFv_i rfl) ?_
    refine w_icmp_ge 42 dX10_numberAt_17 (by decide) (fun c2 => ?_) (fun c2 => ?_)
    · replace h := e_t c2 h
      refine w_sub [2] rfl ?_
      exact l_X10_numberAt_42 _ _ _ h
    · replace h := e_f c2 h
      refine w_iload_n 2 dX10_numberAt_20 rfl rfl ?_
      refine w_bipush (v := 10) dX10_numberAt_21 (by decide) ?_
      refine w_imul dX10_numberAt_23 ?_
      refine w_aload_n 0 ((some (5))) dX10_numberAt_24 rfl rfl ?_
      refine w_get (v := va_rf (some 9)) dX10_numberAt_25 fl_RX10_23 ⟨rfl, Or.inr ⟨rfl, by decide⟩⟩ (aFv_k rfl) ?_
      refine w_iload 3 dX10_numberAt_28 rfl ?_
      replace h := e_grd h; obtain ⟨b3, h⟩ := h
      refine w_baload dX10_numberAt_30 ⟨rfl, Or.inr ⟨rfl, by decide⟩⟩ b3 ?_
      refine w_iadd dX10_numberAt_31 ?_
      refine w_bipush (v := 48) dX10_numberAt_32 (by decide) ?_
      refine w_isub dX10_numberAt_34 ?_
      refine w_istore_n dX10_numberAt_35 rfl (by decide) rfl ?_
      refine w_iinc (q := 3) (v := x4 + 1) dX10_numberAt_36 rfl rfl (by decide) rfl ?_
      refine w_goto 5 dX10_numberAt_39 (by decide) ?_
      refine w_sub [2, 3, 1, 0] rfl ?_
      exact hrec5 _ _ _ _ _ h
theorem l_X10_numberAt_5  : ∀ (n : Nat) (x2 : Int32) (x3 : Int32) (x4 : Int32) (σ : aSt) (o : Int32 × aSt), f_X10_numberAt_5  n x2 x3 x4 σ = some o → AW true m_X10_numberAt 5 [(0, va_rf (some (5))), (2, Value.int (x2)), (3, Value.int (x3)), (4, Value.int (x4))] [] σ 0 0 (some (.int o.1)) o.2
  | 0 => fun x2 x3 x4 σ o h => by cases h
  | n + 1 => fun x2 x3 x4 σ o h => l_X10_numberAt_5_b (f_X10_numberAt_5  n) (l_X10_numberAt_5  n) x2 x3 x4 σ o h
set_option maxRecDepth 100000 in
set_option maxHeartbeats 4000000 in
theorem c_X10_numberAt (p1 : Int32) (p2 : Int32) (σ : aSt) (o : Int32 × aSt) (h : f_X10_numberAt p1 p2 σ = some o) : AM true m_X10_numberAt [va_rf (some (5)), .int (p1), .int (p2)] σ (some (.int o.1)) o.2 := by
  refine AM_of2 (lv := [(0, va_rf (some (5))), (1, Value.int (p1)), (2, Value.int (p2))]) (by decide +kernel) rfl (Nat.le_of_ble_eq_true rfl) ?_
  unfold f_X10_numberAt at h
  refine w_iconst (v := 0) dX10_numberAt_0 (by decide) ?_
  refine w_istore_n dX10_numberAt_1 rfl (by decide) rfl ?_
  refine w_iload_n 2 dX10_numberAt_2 rfl rfl ?_
  refine w_istore dX10_numberAt_3 (by decide) rfl ?_
  refine w_sub [2, 4, 1, 0] rfl ?_
  exact l_X10_numberAt_5 aN _ _ _ _ _ h
theorem dX10_takeToken_0 : decode cX10_takeToken 0 = .ok (.aload_n 0, 1) := by decide +kernel
theorem dX10_takeToken_1 : decode cX10_takeToken 1 = .ok (.getfield 23, 3) := by decide +kernel
theorem dX10_takeToken_4 : decode cX10_takeToken 4 = .ok (.iload_n 1, 1) := by decide +kernel
theorem dX10_takeToken_5 : decode cX10_takeToken 5 = .ok (.baload, 1) := by decide +kernel
theorem dX10_takeToken_6 : decode cX10_takeToken 6 = .ok (.istore_n 3, 1) := by decide +kernel
theorem dX10_takeToken_7 : decode cX10_takeToken 7 = .ok (.iload_n 2, 1) := by decide +kernel
theorem dX10_takeToken_8 : decode cX10_takeToken 8 = .ok (.iload_n 1, 1) := by decide +kernel
theorem dX10_takeToken_9 : decode cX10_takeToken 9 = .ok (.isub, 1) := by decide +kernel
theorem dX10_takeToken_10 : decode cX10_takeToken 10 = .ok (.bipush 6, 2) := by decide +kernel
theorem dX10_takeToken_12 : decode cX10_takeToken 12 = .ok (.if_icmp .le 13, 3) := by decide +kernel
theorem dX10_takeToken_15 : decode cX10_takeToken 15 = .ok (.aload_n 0, 1) := by decide +kernel
theorem dX10_takeToken_16 : decode cX10_takeToken 16 = .ok (.iconst 0, 1) := by decide +kernel
theorem dX10_takeToken_17 : decode cX10_takeToken 17 = .ok (.iconst 0, 1) := by decide +kernel
theorem dX10_takeToken_18 : decode cX10_takeToken 18 = .ok (.iload_n 1, 1) := by decide +kernel
theorem dX10_takeToken_19 : decode cX10_takeToken 19 = .ok (.invokevirtual 44, 3) := by decide +kernel
theorem dX10_takeToken_22 : decode cX10_takeToken 22 = .ok (.goto 82, 3) := by decide +kernel
theorem dX10_takeToken_25 : decode cX10_takeToken 25 = .ok (.iload_n 3, 1) := by decide +kernel
theorem dX10_takeToken_26 : decode cX10_takeToken 26 = .ok (.invokestatic 48, 3) := by decide +kernel
theorem dX10_takeToken_29 : decode cX10_takeToken 29 = .ok (.ifCond .eq 18, 3) := by decide +kernel
theorem dX10_takeToken_32 : decode cX10_takeToken 32 = .ok (.aload_n 0, 1) := by decide +kernel
theorem dX10_takeToken_33 : decode cX10_takeToken 33 = .ok (.iconst 1, 1) := by decide +kernel
theorem dX10_takeToken_34 : decode cX10_takeToken 34 = .ok (.aload_n 0, 1) := by decide +kernel
theorem dX10_takeToken_35 : decode cX10_takeToken 35 = .ok (.iload_n 1, 1) := by decide +kernel
theorem dX10_takeToken_36 : decode cX10_takeToken 36 = .ok (.iload_n 2, 1) := by decide +kernel
theorem dX10_takeToken_37 : decode cX10_takeToken 37 = .ok (.invokevirtual 55, 3) := by decide +kernel
theorem dX10_takeToken_40 : decode cX10_takeToken 40 = .ok (.iload_n 1, 1) := by decide +kernel
theorem dX10_takeToken_41 : decode cX10_takeToken 41 = .ok (.invokevirtual 44, 3) := by decide +kernel
theorem dX10_takeToken_44 : decode cX10_takeToken 44 = .ok (.goto 60, 3) := by decide +kernel
theorem dX10_takeToken_47 : decode cX10_takeToken 47 = .ok (.iload_n 3, 1) := by decide +kernel
theorem dX10_takeToken_48 : decode cX10_takeToken 48 = .ok (.invokestatic 52, 3) := by decide +kernel
theorem dX10_takeToken_51 : decode cX10_takeToken 51 = .ok (.ifCond .eq 18, 3) := by decide +kernel
theorem dX10_takeToken_54 : decode cX10_takeToken 54 = .ok (.aload_n 0, 1) := by decide +kernel
theorem dX10_takeToken_55 : decode cX10_takeToken 55 = .ok (.iconst 2, 1) := by decide +kernel
theorem dX10_takeToken_56 : decode cX10_takeToken 56 = .ok (.aload_n 0, 1) := by decide +kernel
theorem dX10_takeToken_57 : decode cX10_takeToken 57 = .ok (.iload_n 1, 1) := by decide +kernel
theorem dX10_takeToken_58 : decode cX10_takeToken 58 = .ok (.iload_n 2, 1) := by decide +kernel
theorem dX10_takeToken_59 : decode cX10_takeToken 59 = .ok (.invokevirtual 58, 3) := by decide +kernel
theorem dX10_takeToken_62 : decode cX10_takeToken 62 = .ok (.iload_n 1, 1) := by decide +kernel
theorem dX10_takeToken_63 : decode cX10_takeToken 63 = .ok (.invokevirtual 44, 3) := by decide +kernel
theorem dX10_takeToken_66 : decode cX10_takeToken 66 = .ok (.goto 38, 3) := by decide +kernel
theorem dX10_takeToken_69 : decode cX10_takeToken 69 = .ok (.aload_n 0, 1) := by decide +kernel
theorem dX10_takeToken_70 : decode cX10_takeToken 70 = .ok (.iload_n 3, 1) := by decide +kernel
theorem dX10_takeToken_71 : decode cX10_takeToken 71 = .ok (.bipush 59, 2) := by decide +kernel
theorem dX10_takeToken_73 : decode cX10_takeToken 73 = .ok (.if_icmp .eq 21, 3) := by decide +kernel
theorem dX10_takeToken_76 : decode cX10_takeToken 76 = .ok (.iload_n 3, 1) := by decide +kernel
theorem dX10_takeToken_77 : decode cX10_takeToken 77 = .ok (.bipush 60, 2) := by decide +kernel
theorem dX10_takeToken_79 : decode cX10_takeToken 79 = .ok (.if_icmp .eq 15, 3) := by decide +kernel
theorem dX10_takeToken_82 : decode cX10_takeToken 82 = .ok (.iload_n 3, 1) := by decide +kernel
theorem dX10_takeToken_83 : decode cX10_takeToken 83 = .ok (.bipush 62, 2) := by decide +kernel
theorem dX10_takeToken_85 : decode cX10_takeToken 85 = .ok (.if_icmp .eq 9, 3) := by decide +kernel
theorem dX10_takeToken_88 : decode cX10_takeToken 88 = .ok (.iload_n 3, 1) := by decide +kernel
theorem dX10_takeToken_89 : decode cX10_takeToken 89 = .ok (.bipush 61, 2) := by decide +kernel
theorem dX10_takeToken_91 : decode cX10_takeToken 91 = .ok (.if_icmp .ne 7, 3) := by decide +kernel
theorem dX10_takeToken_94 : decode cX10_takeToken 94 = .ok (.iconst 3, 1) := by decide +kernel
theorem dX10_takeToken_95 : decode cX10_takeToken 95 = .ok (.goto 4, 3) := by decide +kernel
theorem dX10_takeToken_98 : decode cX10_takeToken 98 = .ok (.iconst 0, 1) := by decide +kernel
theorem dX10_takeToken_99 : decode cX10_takeToken 99 = .ok (.iload_n 3, 1) := by decide +kernel
theorem dX10_takeToken_100 : decode cX10_takeToken 100 = .ok (.iload_n 1, 1) := by decide +kernel
theorem dX10_takeToken_101 : decode cX10_takeToken 101 = .ok (.invokevirtual 44, 3) := by decide +kernel
theorem dX10_takeToken_104 : decode cX10_takeToken 104 = .ok (.return_, 1) := by decide +kernel
theorem kd_X10_takeToken : aKd m_X10_takeToken 2 := ⟨wd_24_8, wd_1_21, ⟨by decide +kernel, by decide +kernel, by decide +kernel⟩⟩
set_option maxRecDepth 100000 in
set_option maxHeartbeats 4000000 in
theorem l_X10_takeToken_104   (σ : aSt) (o : Unit × aSt) (h : f_X10_takeToken_104   σ = some o) : AW true m_X10_takeToken 104 [] [] σ 0 0 none o.2 := by
  unfold f_X10_takeToken_104 at h
  obtain rfl := Option.some.inj h
  exact w_vreturn dX10_takeToken_104 rfl (Nat.le_of_ble_eq_true rfl) (Nat.le_of_ble_eq_true rfl)
set_option maxRecDepth 100000 in
set_option maxHeartbeats 4000000 in
theorem l_X10_takeToken_99  (x1 : Int32) (x3 : Int32) (t1 : Int32) (σ : aSt) (o : Unit × aSt) (h : f_X10_takeToken_99  x1 x3 t1 σ = some o) : AW true m_X10_takeToken 99 [(1, Value.int (x1)), (3, Value.int (x3))] [.int (t1), va_rf (some (5))] σ 0 0 none o.2 := by
  unfold f_X10_takeToken_99 at h
  refine w_iload_n 1 dX10_takeToken_99 rfl rfl ?_
  refine w_iload_n 0 dX10_takeToken_100 rfl rfl ?_
  replace h := e_bind h; obtain ⟨q23, e24, h⟩ := h
  refine w_callV0 (M2 := m_X10_keep) (av := [.int (t1), .int (x3), .int (x1)]) (ci := 10) (c_X10_keep _ _ _ _ _ e24) dX10_takeToken_101 kd_X10_keep wd_24_9 wd_24_10 wd_24_11 rfl rfl ⟨rfl, Or.inr ⟨rfl, by decide⟩⟩ rfl ⟨Nat.le_of_ble_eq_true rfl, Nat.le_of_ble_eq_true rfl, Nat.le_of_ble_eq_true rfl, Nat.le_of_ble_eq_true rfl⟩ (Nat.le_of_ble_eq_true rfl) ?_
  refine w_sub [] rfl ?_
  exact l_X10_takeToken_104 _ _ h
set_option maxRecDepth 100000 in
set_option maxHeartbeats 4000000 in
theorem l_X10_takeToken_94  (x1 : Int32) (x3 : Int32) (σ : aSt) (o : Unit × aSt) (h : f_X10_takeToken_94  x1 x3 σ = some o) : AW true m_X10_takeToken 94 [(1, Value.int (x1)), (3, Value.int (x3))] [va_rf (some (5))] σ 0 0 none o.2 := by
  unfold f_X10_takeToken_94 at h
  refine w_iconst (v := 3) dX10_takeToken_94 (by decide) ?_
  refine w_goto 99 dX10_takeToken_95 (by decide) ?_
  exact l_X10_takeToken_99 _ _ _ _ _ h
set_option maxRecDepth 100000 in
set_option maxHeartbeats 4000000 in
theorem c_X10_takeToken (p1 : Int32) (p2 : Int32) (σ : aSt) (o : Unit × aSt) (h : f_X10_takeToken p1 p2 σ = some o) : AM true m_X10_takeToken [va_rf (some (5)), .int (p1), .int (p2)] σ none o.2 := by
  refine AM_of2 (lv := [(0, va_rf (some (5))), (1, Value.int (p1)), (2, Value.int (p2))]) (by decide +kernel) rfl (Nat.le_of_ble_eq_true rfl) ?_
  unfold f_X10_takeToken at h
  refine w_aload_n 0 ((some (5))) dX10_takeToken_0 rfl rfl ?_
  refine w_get (v := va_rf (some 9)) dX10_takeToken_1 fl_RX10_23 ⟨rfl, Or.inr ⟨rfl, by decide⟩⟩ (aFv_k rfl) ?_
  refine w_iload_n 1 dX10_takeToken_4 rfl rfl ?_
  replace h := e_grd h; obtain ⟨b1, h⟩ := h
  refine w_baload dX10_takeToken_5 ⟨rfl, Or.inr ⟨rfl, by decide⟩⟩ b1 ?_
  refine w_istore_n dX10_takeToken_6 rfl (by decide) rfl ?_
  refine w_iload_n 3 dX10_takeToken_7 rfl rfl ?_
  refine w_iload_n 2 dX10_takeToken_8 rfl rfl ?_
  refine w_isub dX10_takeToken_9 ?_
  refine w_bipush (v := 6) dX10_takeToken_10 (by decide) ?_
  refine w_icmp_le 25 dX10_takeToken_12 (by decide) (fun c2 => ?_) (fun c2 => ?_)
  · replace h := e_t c2 h
    refine w_iload_n 0 dX10_takeToken_25 rfl rfl ?_
    replace h := e_bind h; obtain ⟨q3, e4, h⟩ := h
    refine w_callS1 (M2 := m_X10_isLetter) (av := [.int (gI σ 9 p1.toNatClampNeg)]) (c_X10_isLetter _ _ _ e4) dX10_takeToken_26 kd_X10_isLetter wd_23_23 wd_24_0 rfl rfl ⟨Nat.le_of_ble_eq_true rfl, Nat.le_of_ble_eq_true rfl, Nat.le_of_ble_eq_true rfl, Nat.le_of_ble_eq_true rfl⟩ (Nat.le_of_ble_eq_true rfl) ?_
    refine w_if_eq 47 dX10_takeToken_29 (by decide) (fun c5 => ?_) (fun c5 => ?_)
    · replace h := e_t c5 h
      refine w_iload_n 0 dX10_takeToken_47 rfl rfl ?_
      replace h := e_bind h; obtain ⟨q6, e7, h⟩ := h
      refine w_callS1 (M2 := m_X10_isFigure) (av := [.int (gI σ 9 p1.toNatClampNeg)]) (c_X10_isFigure _ _ _ e7) dX10_takeToken_48 kd_X10_isFigure wd_24_2 wd_24_3 rfl rfl ⟨Nat.le_of_ble_eq_true rfl, Nat.le_of_ble_eq_true rfl, Nat.le_of_ble_eq_true rfl, Nat.le_of_ble_eq_true rfl⟩ (Nat.le_of_ble_eq_true rfl) ?_
      refine w_if_eq 69 dX10_takeToken_51 (by decide) (fun c8 => ?_) (fun c8 => ?_)
      · replace h := e_t c8 h
        refine w_aload_n 1 ((some (5))) dX10_takeToken_69 rfl rfl ?_
        refine w_iload_n 0 dX10_takeToken_70 rfl rfl ?_
        refine w_bipush (v := 59) dX10_takeToken_71 (by decide) ?_
        refine w_icmp_eq 94 dX10_takeToken_73 (by decide) (fun c9 => ?_) (fun c9 => ?_)
        · replace h := e_t c9 h
          refine w_sub [2, 0] rfl ?_
          exact l_X10_takeToken_94 _ _ _ _ h
        · replace h := e_f c9 h
          refine w_iload_n 0 dX10_takeToken_76 rfl rfl ?_
          refine w_bipush (v := 60) dX10_takeToken_77 (by decide) ?_
          refine w_icmp_eq 94 dX10_takeToken_79 (by decide) (fun c10 => ?_) (fun c10 => ?_)
          · replace h := e_t c10 h
            refine w_sub [2, 0] rfl ?_
            exact l_X10_takeToken_94 _ _ _ _ h
          · replace h := e_f c10 h
            refine w_iload_n 0 dX10_takeToken_82 rfl rfl ?_
            refine w_bipush (v := 62) dX10_takeToken_83 (by decide) ?_
            refine w_icmp_eq 94 dX10_takeToken_85 (by decide) (fun c11 => ?_) (fun c11 => ?_)
            · replace h := e_t c11 h
              refine w_sub [2, 0] rfl ?_
              exact l_X10_takeToken_94 _ _ _ _ h
            · replace h := e_f c11 h
              refine w_iload_n 0 dX10_takeToken_88 rfl rfl ?_
              refine w_bipush (v := 61) dX10_takeToken_89 (by decide) ?_
              refine w_icmp_ne 98 dX10_takeToken_91 (by decide) (fun c12 => ?_) (fun c12 => ?_)
              · replace h := e_f c12 h
                refine w_iconst (v := 0) dX10_takeToken_98 (by decide) ?_
                refine w_sub [2, 0] rfl ?_
                exact l_X10_takeToken_99 _ _ _ _ _ h
              · replace h := e_t c12 h
                refine w_sub [2, 0] rfl ?_
                exact l_X10_takeToken_94 _ _ _ _ h
      · replace h := e_f c8 h
        refine w_aload_n 1 ((some (5))) dX10_takeToken_54 rfl rfl ?_
        refine w_iconst (v := 2) dX10_takeToken_55 (by decide) ?_
        refine w_aload_n 1 ((some (5))) dX10_takeToken_56 rfl rfl ?_
        refine w_iload_n 2 dX10_takeToken_57 rfl rfl ?_
        refine w_iload_n 3 dX10_takeToken_58 rfl rfl ?_
        replace h := e_bind h; obtain ⟨q13, e14, h⟩ := h
        refine w_callV1 (M2 := m_X10_numberAt) (av := [.int (p1), .int (p2)]) (ci := 10) (c_X10_numberAt _ _ _ _ e14) dX10_takeToken_59 kd_X10_numberAt wd_26_22 wd_26_23 wd_27_0 rfl rfl ⟨rfl, Or.inr ⟨rfl, by decide⟩⟩ rfl ⟨Nat.le_of_ble_eq_true rfl, Nat.le_of_ble_eq_true rfl, Nat.le_of_ble_eq_true rfl, Nat.le_of_ble_eq_true rfl⟩ (Nat.le_of_ble_eq_true rfl) ?_
        refine w_iload_n 2 dX10_takeToken_62 rfl rfl ?_
        replace h := e_bind h; obtain ⟨q15, e16, h⟩ := h
        refine w_callV0 (M2 := m_X10_keep) (av := [.int (2), .int (q13.1), .int (p1)]) (ci := 10) (c_X10_keep _ _ _ _ _ e16) dX10_takeToken_63 kd_X10_keep wd_24_9 wd_24_10 wd_24_11 rfl rfl ⟨rfl, Or.inr ⟨rfl, by decide⟩⟩ rfl ⟨Nat.le_of_ble_eq_true rfl, Nat.le_of_ble_eq_true rfl, Nat.le_of_ble_eq_true rfl, Nat.le_of_ble_eq_true rfl⟩ (Nat.le_of_ble_eq_true rfl) ?_
        refine w_goto 104 dX10_takeToken_66 (by decide) ?_
        refine w_sub [] rfl ?_
        exact l_X10_takeToken_104 _ _ h
    · replace h := e_f c5 h
      refine w_aload_n 1 ((some (5))) dX10_takeToken_32 rfl rfl ?_
      refine w_iconst (v := 1) dX10_takeToken_33 (by decide) ?_
      refine w_aload_n 1 ((some (5))) dX10_takeToken_34 rfl rfl ?_
      refine w_iload_n 2 dX10_takeToken_35 rfl rfl ?_
      refine w_iload_n 3 dX10_takeToken_36 rfl rfl ?_
      replace h := e_bind h; obtain ⟨q17, e18, h⟩ := h
      refine w_callV1 (M2 := m_X10_wordAt) (av := [.int (p1), .int (p2)]) (ci := 10) (c_X10_wordAt _ _ _ _ e18) dX10_takeToken_37 kd_X10_wordAt wd_24_13 wd_24_14 wd_24_15 rfl rfl ⟨rfl, Or.inr ⟨rfl, by decide⟩⟩ rfl ⟨Nat.le_of_ble_eq_true rfl, Nat.le_of_ble_eq_true rfl, Nat.le_of_ble_eq_true rfl, Nat.le_of_ble_eq_true rfl⟩ (Nat.le_of_ble_eq_true rfl) ?_
      refine w_iload_n 2 dX10_takeToken_40 rfl rfl ?_
      replace h := e_bind h; obtain ⟨q19, e20, h⟩ := h
      refine w_callV0 (M2 := m_X10_keep) (av := [.int (1), .int (q17.1), .int (p1)]) (ci := 10) (c_X10_keep _ _ _ _ _ e20) dX10_takeToken_41 kd_X10_keep wd_24_9 wd_24_10 wd_24_11 rfl rfl ⟨rfl, Or.inr ⟨rfl, by decide⟩⟩ rfl ⟨Nat.le_of_ble_eq_true rfl, Nat.le_of_ble_eq_true rfl, Nat.le_of_ble_eq_true rfl, Nat.le_of_ble_eq_true rfl⟩ (Nat.le_of_ble_eq_true rfl) ?_
      refine w_goto 104 dX10_takeToken_44 (by decide) ?_
      refine w_sub [] rfl ?_
      exact l_X10_takeToken_104 _ _ h
  · replace h := e_f c2 h
    refine w_aload_n 1 ((some (5))) dX10_takeToken_15 rfl rfl ?_
    refine w_iconst (v := 0) dX10_takeToken_16 (by decide) ?_
    refine w_iconst (v := 0) dX10_takeToken_17 (by decide) ?_
    refine w_iload_n 2 dX10_takeToken_18 rfl rfl ?_
    replace h := e_bind h; obtain ⟨q21, e22, h⟩ := h
    refine w_callV0 (M2 := m_X10_keep) (av := [.int (0), .int (0), .int (p1)]) (ci := 10) (c_X10_keep _ _ _ _ _ e22) dX10_takeToken_19 kd_X10_keep wd_24_9 wd_24_10 wd_24_11 rfl rfl ⟨rfl, Or.inr ⟨rfl, by decide⟩⟩ rfl ⟨Nat.le_of_ble_eq_true rfl, Nat.le_of_ble_eq_true rfl, Nat.le_of_ble_eq_true rfl, Nat.le_of_ble_eq_true rfl⟩ (Nat.le_of_ble_eq_true rfl) ?_
    refine w_goto 104 dX10_takeToken_22 (by decide) ?_
    refine w_sub [] rfl ?_
    exact l_X10_takeToken_104 _ _ h
theorem dX10_split_0 : decode cX10_split 0 = .ok (.aload_n 0, 1) := by decide +kernel
theorem dX10_split_1 : decode cX10_split 1 = .ok (.iconst 0, 1) := by decide +kernel
theorem dX10_split_2 : decode cX10_split 2 = .ok (.putfield 27, 3) := by decide +kernel
theorem dX10_split_5 : decode cX10_split 5 = .ok (.iconst 0, 1) := by decide +kernel
theorem dX10_split_6 : decode cX10_split 6 = .ok (.istore_n 1, 1) := by decide +kernel
theorem dX10_split_7 : decode cX10_split 7 = .ok (.iload_n 1, 1) := by decide +kernel
theorem dX10_split_8 : decode cX10_split 8 = .ok (.aload_n 0, 1) := by decide +kernel
theorem dX10_split_9 : decode cX10_split 9 = .ok (.getfield 19, 3) := by decide +kernel
theorem dX10_split_12 : decode cX10_split 12 = .ok (.if_icmp .ge 50, 3) := by decide +kernel
theorem dX10_split_15 : decode cX10_split 15 = .ok (.aload_n 0, 1) := by decide +kernel
theorem dX10_split_16 : decode cX10_split 16 = .ok (.getfield 23, 3) := by decide +kernel
theorem dX10_split_19 : decode cX10_split 19 = .ok (.iload_n 1, 1) := by decide +kernel
theorem dX10_split_20 : decode cX10_split 20 = .ok (.baload, 1) := by decide +kernel
theorem dX10_split_21 : decode cX10_split 21 = .ok (.bipush 32, 2) := by decide +kernel
theorem dX10_split_23 : decode cX10_split 23 = .ok (.if_icmp .eq 24, 3) := by decide +kernel
theorem dX10_split_26 : decode cX10_split 26 = .ok (.aload_n 0, 1) := by decide +kernel
theorem dX10_split_27 : decode cX10_split 27 = .ok (.getfield 23, 3) := by decide +kernel
theorem dX10_split_30 : decode cX10_split 30 = .ok (.iload_n 1, 1) := by decide +kernel
theorem dX10_split_31 : decode cX10_split 31 = .ok (.baload, 1) := by decide +kernel
theorem dX10_split_32 : decode cX10_split 32 = .ok (.bipush 10, 2) := by decide +kernel
theorem dX10_split_34 : decode cX10_split 34 = .ok (.if_icmp .eq 13, 3) := by decide +kernel
theorem dX10_split_37 : decode cX10_split 37 = .ok (.aload_n 0, 1) := by decide +kernel
theorem dX10_split_38 : decode cX10_split 38 = .ok (.iload_n 1, 1) := by decide +kernel
theorem dX10_split_39 : decode cX10_split 39 = .ok (.aload_n 0, 1) := by decide +kernel
theorem dX10_split_40 : decode cX10_split 40 = .ok (.iload_n 1, 1) := by decide +kernel
theorem dX10_split_41 : decode cX10_split 41 = .ok (.invokevirtual 30, 3) := by decide +kernel
theorem dX10_split_44 : decode cX10_split 44 = .ok (.invokevirtual 34, 3) := by decide +kernel
theorem dX10_split_47 : decode cX10_split 47 = .ok (.iload_n 1, 1) := by decide +kernel
theorem dX10_split_48 : decode cX10_split 48 = .ok (.iconst 1, 1) := by decide +kernel
theorem dX10_split_49 : decode cX10_split 49 = .ok (.iadd, 1) := by decide +kernel
theorem dX10_split_50 : decode cX10_split 50 = .ok (.aload_n 0, 1) := by decide +kernel
theorem dX10_split_51 : decode cX10_split 51 = .ok (.iload_n 1, 1) := by decide +kernel
theorem dX10_split_52 : decode cX10_split 52 = .ok (.invokevirtual 30, 3) := by decide +kernel
theorem dX10_split_55 : decode cX10_split 55 = .ok (.invokestatic 38, 3) := by decide +kernel
theorem dX10_split_58 : decode cX10_split 58 = .ok (.istore_n 1, 1) := by decide +kernel
theorem dX10_split_59 : decode cX10_split 59 = .ok (.goto (-52), 3) := by decide +kernel
theorem dX10_split_62 : decode cX10_split 62 = .ok (.aload_n 0, 1) := by decide +kernel
theorem dX10_split_63 : decode cX10_split 63 = .ok (.iconst 4, 1) := by decide +kernel
theorem dX10_split_64 : decode cX10_split 64 = .ok (.iconst 0, 1) := by decide +kernel
theorem dX10_split_65 : decode cX10_split 65 = .ok (.aload_n 0, 1) := by decide +kernel
theorem dX10_split_66 : decode cX10_split 66 = .ok (.getfield 19, 3) := by decide +kernel
theorem dX10_split_69 : decode cX10_split 69 = .ok (.invokevirtual 44, 3) := by decide +kernel
theorem dX10_split_72 : decode cX10_split 72 = .ok (.return_, 1) := by decide +kernel
theorem kd_X10_split : aKd m_X10_split 0 := ⟨wd_23_14, wd_1_21, ⟨by decide +kernel, by decide +kernel, by decide +kernel⟩⟩
set_option maxRecDepth 100000 in
set_option maxHeartbeats 4000000 in
theorem l_X10_split_47 (rec7 : Int32 → aSt → Option (Unit × aSt)) (hrec7 : ∀ (x1 : Int32) (σ : aSt) (o : Unit × aSt), rec7 x1 σ = some o → AW true m_X10_split 7 [(0, va_rf (some (5))), (1, Value.int (x1))] [] σ 0 0 none o.2) (x1 : Int32) (σ : aSt) (o : Unit × aSt) (h : f_X10_split_47 rec7 x1 σ = some o) : AW true m_X10_split 47 [(0, va_rf (some (5))), (1, Value.int (x1))] [] σ 0 0 none o.2 := by
  unfold f_X10_split_47 at h
  refine w_iload_n 1 dX10_split_47 rfl rfl ?_
  refine w_iconst (v := 1) dX10_split_48 (by decide) ?_
  refine w_iadd dX10_split_49 ?_
  refine w_aload_n 0 ((some (5))) dX10_split_50 rfl rfl ?_
  refine w_iload_n 1 dX10_split_51 rfl rfl ?_
  replace h := e_bind h; obtain ⟨q1, e2, h⟩ := h
  refine w_callV1 (M2 := m_X10_endOf) (av := [.int (x1)]) (ci := 10) (c_X10_endOf _ _ _ e2) dX10_split_52 kd_X10_endOf wd_23_19 wd_23_20 wd_23_21 rfl rfl ⟨rfl, Or.inr ⟨rfl, by decide⟩⟩ rfl ⟨Nat.le_of_ble_eq_true rfl, Nat.le_of_ble_eq_true rfl, Nat.le_of_ble_eq_true rfl, Nat.le_of_ble_eq_true rfl⟩ (Nat.le_of_ble_eq_true rfl) ?_
  refine w_max dX10_split_55 wd_23_15 wd_23_16 wd_23_17 wd_23_18 (by decide) (by decide) (by decide) (by decide) ?_
  refine w_istore_n dX10_split_58 rfl (by decide) rfl ?_
  refine w_goto 7 dX10_split_59 (by decide) ?_
  refine w_sub [1, 0] rfl ?_
  exact hrec7 _ _ _ h
set_option maxRecDepth 100000 in
set_option maxHeartbeats 4000000 in
theorem l_X10_split_7_b (rec7 : Int32 → aSt → Option (Unit × aSt)) (hrec7 : ∀ (x1 : Int32) (σ : aSt) (o : Unit × aSt), rec7 x1 σ = some o → AW true m_X10_split 7 [(0, va_rf (some (5))), (1, Value.int (x1))] [] σ 0 0 none o.2) (x1 : Int32) (σ : aSt) (o : Unit × aSt) (h : f_X10_split_7_b rec7 x1 σ = some o) : AW true m_X10_split 7 [(0, va_rf (some (5))), (1, Value.int (x1))] [] σ 0 0 none o.2 := by
  unfold f_X10_split_7_b at h
  refine w_iload_n 1 dX10_split_7 rfl rfl ?_
  refine w_aload_n 0 ((some (5))) dX10_split_8 rfl rfl ?_
  refine w_get dX10_split_9 fl_RX10_19 ⟨rfl, Or.inr ⟨rfl, by decide⟩⟩ (aFv_i rfl) ?_
  refine w_icmp_ge 62 dX10_split_12 (by decide) (fun c3 => ?_) (fun c3 => ?_)
  · replace h := e_t c3 h
    refine w_aload_n 0 ((some (5))) dX10_split_62 rfl rfl ?_
    refine w_iconst (v := 4) dX10_split_63 (by decide) ?_
    refine w_iconst (v := 0) dX10_split_64 (by decide) ?_
    refine w_aload_n 0 ((some (5))) dX10_split_65 rfl rfl ?_
    refine w_get dX10_split_66 fl_RX10_19 ⟨rfl, Or.inr ⟨rfl, by decide⟩⟩ (aFv_i rfl) ?_
    replace h := e_bind h; obtain ⟨q4, e5, h⟩ := h
    refine w_callV0 (M2 := m_X10_keep) (av := [.int (4), .int (0), .int (gI σ 5 3)]) (ci := 10) (c_X10_keep _ _ _ _ _ e5) dX10_split_69 kd_X10_keep wd_24_9 wd_24_10 wd_24_11 rfl rfl ⟨rfl, Or.inr ⟨rfl, by decide⟩⟩ rfl ⟨Nat.le_of_ble_eq_true rfl, Nat.le_of_ble_eq_true rfl, Nat.le_of_ble_eq_true rfl, Nat.le_of_ble_eq_true rfl⟩ (Nat.le_of_ble_eq_true rfl) ?_
    obtain rfl := Option.some.inj h
    exact w_vreturn dX10_split_72 rfl (Nat.le_of_ble_eq_true rfl) (Nat.le_of_ble_eq_true rfl)
  · replace h := e_f c3 h
    refine w_aload_n 0 ((some (5))) dX10_split_15 rfl rfl ?_
    refine w_get (v := va_rf (some 9)) dX10_split_16 fl_RX10_23 ⟨rfl, Or.inr ⟨rfl, by decide⟩⟩ (aFv_k rfl) ?_
    refine w_iload_n 1 dX10_split_19 rfl rfl ?_
    replace h := e_grd h; obtain ⟨b6, h⟩ := h
    refine w_baload dX10_split_20 ⟨rfl, Or.inr ⟨rfl, by decide⟩⟩ b6 ?_
    refine w_bipush (v := 32) dX10_split_21 (by decide) ?_
    refine w_icmp_eq 47 dX10_split_23 (by decide) (fun c7 => ?_) (fun c7 => ?_)
    · replace h := e_t c7 h
      exact l_X10_split_47 rec7 hrec7 _ _ _ h
    · replace h := e_f c7 h
      refine w_aload_n 0 ((some (5))) dX10_split_26 rfl rfl ?_
      refine w_get (v := va_rf (some 9)) dX10_split_27 fl_RX10_23 ⟨rfl, Or.inr ⟨rfl, by decide⟩⟩ (aFv_k rfl) ?_
      refine w_iload_n 1 dX10_split_30 rfl rfl ?_
      replace h := e_grd h; obtain ⟨b8, h⟩ := h
      refine w_baload dX10_split_31 ⟨rfl, Or.inr ⟨rfl, by decide⟩⟩ b8 ?_
      refine w_bipush (v := 10) dX10_split_32 (by decide) ?_
      refine w_icmp_eq 47 dX10_split_34 (by decide) (fun c9 => ?_) (fun c9 => ?_)
      · replace h := e_t c9 h
        exact l_X10_split_47 rec7 hrec7 _ _ _ h
      · replace h := e_f c9 h
        refine w_aload_n 0 ((some (5))) dX10_split_37 rfl rfl ?_
        refine w_iload_n 1 dX10_split_38 rfl rfl ?_
        refine w_aload_n 0 ((some (5))) dX10_split_39 rfl rfl ?_
        refine w_iload_n 1 dX10_split_40 rfl rfl ?_
        replace h := e_bind h; obtain ⟨q10, e11, h⟩ := h
        refine w_callV1 (M2 := m_X10_endOf) (av := [.int (x1)]) (ci := 10) (c_X10_endOf _ _ _ e11) dX10_split_41 kd_X10_endOf wd_23_19 wd_23_20 wd_23_21 rfl rfl ⟨rfl, Or.inr ⟨rfl, by decide⟩⟩ rfl ⟨Nat.le_of_ble_eq_true rfl, Nat.le_of_ble_eq_true rfl, Nat.le_of_ble_eq_true rfl, Nat.le_of_ble_eq_true rfl⟩ (Nat.le_of_ble_eq_true rfl) ?_
        replace h := e_bind h; obtain ⟨q12, e13, h⟩ := h
        refine w_callV0 (M2 := m_X10_takeToken) (av := [.int (x1), .int (q10.1)]) (ci := 10) (c_X10_takeToken _ _ _ _ e13) dX10_split_44 kd_X10_takeToken wd_24_5 wd_24_6 wd_24_7 rfl rfl ⟨rfl, Or.inr ⟨rfl, by decide⟩⟩ rfl ⟨Nat.le_of_ble_eq_true rfl, Nat.le_of_ble_eq_true rfl, Nat.le_of_ble_eq_true rfl, Nat.le_of_ble_eq_true rfl⟩ (Nat.le_of_ble_eq_true rfl) ?_
        exact l_X10_split_47 rec7 hrec7 _ _ _ h
theorem l_X10_split_7  : ∀ (n : Nat) (x1 : Int32) (σ : aSt) (o : Unit × aSt), f_X10_split_7  n x1 σ = some o → AW true m_X10_split 7 [(0, va_rf (some (5))), (1, Value.int (x1))] [] σ 0 0 none o.2
  | 0 => fun x1 σ o h => by cases h
  | n + 1 => fun x1 σ o h => l_X10_split_7_b (f_X10_split_7  n) (l_X10_split_7  n) x1 σ o h
set_option maxRecDepth 100000 in
set_option maxHeartbeats 4000000 in
theorem c_X10_split  (σ : aSt) (o : Unit × aSt) (h : f_X10_split  σ = some o) : AM true m_X10_split [va_rf (some (5))] σ none o.2 := by
  refine AM_of2 (lv := [(0, va_rf (some (5)))]) (by decide +kernel) rfl (Nat.le_of_ble_eq_true rfl) ?_
  unfold f_X10_split at h
  refine w_aload_n 0 ((some (5))) dX10_split_0 rfl rfl ?_
  refine w_iconst (v := 0) dX10_split_1 (by decide) ?_
  refine w_putI dX10_split_2 fl_RX10_27 (Or.inl rfl) rfl ⟨rfl, Or.inr ⟨rfl, by decide⟩⟩ ?_
  refine w_iconst (v := 0) dX10_split_5 (by decide) ?_
  refine w_istore_n dX10_split_6 rfl (by decide) rfl ?_
  refine w_sub [1, 0] rfl ?_
  exact l_X10_split_7 aN _ _ _ h
theorem dX8_clear_0 : decode cX8_clear 0 = .ok (.aload_n 0, 1) := by decide +kernel
theorem dX8_clear_1 : decode cX8_clear 1 = .ok (.getfield 11, 3) := by decide +kernel
theorem dX8_clear_4 : decode cX8_clear 4 = .ok (.iconst 0, 1) := by decide +kernel
theorem dX8_clear_5 : decode cX8_clear 5 = .ok (.bipush 100, 2) := by decide +kernel
theorem dX8_clear_7 : decode cX8_clear 7 = .ok (.iastore, 1) := by decide +kernel
theorem dX8_clear_8 : decode cX8_clear 8 = .ok (.aload_n 0, 1) := by decide +kernel
theorem dX8_clear_9 : decode cX8_clear 9 = .ok (.getfield 11, 3) := by decide +kernel
theorem dX8_clear_12 : decode cX8_clear 12 = .ok (.iconst 1, 1) := by decide +kernel
theorem dX8_clear_13 : decode cX8_clear 13 = .ok (.bipush 50, 2) := by decide +kernel
theorem dX8_clear_15 : decode cX8_clear 15 = .ok (.iastore, 1) := by decide +kernel
theorem dX8_clear_16 : decode cX8_clear 16 = .ok (.aload_n 0, 1) := by decide +kernel
theorem dX8_clear_17 : decode cX8_clear 17 = .ok (.getfield 11, 3) := by decide +kernel
theorem dX8_clear_20 : decode cX8_clear 20 = .ok (.iconst 2, 1) := by decide +kernel
theorem dX8_clear_21 : decode cX8_clear 21 = .ok (.bipush 10, 2) := by decide +kernel
theorem dX8_clear_23 : decode cX8_clear 23 = .ok (.iastore, 1) := by decide +kernel
theorem dX8_clear_24 : decode cX8_clear 24 = .ok (.aload_n 0, 1) := by decide +kernel
theorem dX8_clear_25 : decode cX8_clear 25 = .ok (.getfield 11, 3) := by decide +kernel
theorem dX8_clear_28 : decode cX8_clear 28 = .ok (.iconst 3, 1) := by decide +kernel
theorem dX8_clear_29 : decode cX8_clear 29 = .ok (.bipush 20, 2) := by decide +kernel
theorem dX8_clear_31 : decode cX8_clear 31 = .ok (.iastore, 1) := by decide +kernel
theorem dX8_clear_32 : decode cX8_clear 32 = .ok (.aload_n 0, 1) := by decide +kernel
theorem dX8_clear_33 : decode cX8_clear 33 = .ok (.iconst 0, 1) := by decide +kernel
theorem dX8_clear_34 : decode cX8_clear 34 = .ok (.putfield 15, 3) := by decide +kernel
theorem dX8_clear_37 : decode cX8_clear 37 = .ok (.return_, 1) := by decide +kernel
theorem kd_X8_clear : aKd m_X8_clear 0 := ⟨wd_5_17, wd_2_21, ⟨by decide +kernel, by decide +kernel, by decide +kernel⟩⟩
set_option maxRecDepth 100000 in
set_option maxHeartbeats 4000000 in
theorem l_X8_clear_24  (x0 : Nat) (σ : aSt) (o : Unit × aSt) (h : f_X8_clear_24  x0 σ = some o) : AW true m_X8_clear 24 [(0, va_rf (some (x0)))] [] σ 0 0 none o.2 := by
  unfold f_X8_clear_24 at h
  refine w_aload_n 0 ((some (x0))) dX8_clear_24 rfl rfl ?_
  replace h := e_grd h; obtain ⟨g6, h⟩ := h
  refine w_get (v := va_rf (some ((x0 + 1)))) dX8_clear_25 fl_RX8_11 ⟨g6.1, Or.inl g6.2⟩ (aFv_k rfl) ?_
  refine w_iconst (v := 3) dX8_clear_28 (by decide) ?_
  refine w_bipush (v := 20) dX8_clear_29 (by decide) ?_
  replace h := e_grd h; obtain ⟨g7, h⟩ := h
  replace h := e_grd h; obtain ⟨b8, h⟩ := h
  refine w_iastore dX8_clear_31 ⟨g7.1, Or.inl g7.2⟩ b8 ?_
  refine w_aload_n 0 ((some (x0))) dX8_clear_32 rfl rfl ?_
  refine w_iconst (v := 0) dX8_clear_33 (by decide) ?_
  refine w_putI dX8_clear_34 fl_RX8_15 (Or.inl rfl) rfl ⟨g6.1, Or.inl g6.2⟩ ?_
  obtain rfl := Option.some.inj h
  exact w_vreturn dX8_clear_37 rfl (Nat.le_of_ble_eq_true rfl) (Nat.le_of_ble_eq_true rfl)
set_option maxRecDepth 100000 in
set_option maxHeartbeats 4000000 in
theorem c_X8_clear (p0 : Nat) (σ : aSt) (o : Unit × aSt) (h : f_X8_clear p0 σ = some o) : AM true m_X8_clear [va_rf (some (p0))] σ none o.2 := by
  refine AM_of2 (lv := [(0, va_rf (some (p0)))]) (by decide +kernel) rfl (Nat.le_of_ble_eq_true rfl) ?_
  unfold f_X8_clear at h
  refine w_aload_n 0 ((some (p0))) dX8_clear_0 rfl rfl ?_
  replace h := e_grd h; obtain ⟨g1, h⟩ := h
  refine w_get (v := va_rf (some ((p0 + 1)))) dX8_clear_1 fl_RX8_11 ⟨g1.1, Or.inl g1.2⟩ (aFv_k rfl) ?_
  refine w_iconst (v := 0) dX8_clear_4 (by decide) ?_
  refine w_bipush (v := 100) dX8_clear_5 (by decide) ?_
  replace h := e_grd h; obtain ⟨g2, h⟩ := h
  replace h := e_grd h; obtain ⟨b3, h⟩ := h
  refine w_iastore dX8_clear_7 ⟨g2.1, Or.inl g2.2⟩ b3 ?_
  refine w_aload_n 0 ((some (p0))) dX8_clear_8 rfl rfl ?_
  refine w_get (v := va_rf (some ((p0 + 1)))) dX8_clear_9 fl_RX8_11 ⟨g1.1, Or.inl g1.2⟩ (aFv_k rfl) ?_
  refine w_iconst (v := 1) dX8_clear_12 (by decide) ?_
  refine w_bipush (v := 50) dX8_clear_13 (by decide) ?_
  replace h := e_grd h; obtain ⟨b4, h⟩ := h
  refine w_iastore dX8_clear_15 ⟨g2.1, Or.inl g2.2⟩ b4 ?_
  refine w_aload_n 0 ((some (p0))) dX8_clear_16 rfl rfl ?_
  refine w_get (v := va_rf (some ((p0 + 1)))) dX8_clear_17 fl_RX8_11 ⟨g1.1, Or.inl g1.2⟩ (aFv_k rfl) ?_
  refine w_iconst (v := 2) dX8_clear_20 (by decide) ?_
  refine w_bipush (v := 10) dX8_clear_21 (by decide) ?_
  replace h := e_grd h; obtain ⟨b5, h⟩ := h
  refine w_iastore dX8_clear_23 ⟨g2.1, Or.inl g2.2⟩ b5 ?_
  exact l_X8_clear_24 _ _ _ h
theorem dX6_goTo_0 : decode cX6_goTo 0 = .ok (.iload_n 1, 1) := by decide +kernel
theorem dX6_goTo_1 : decode cX6_goTo 1 = .ok (.ifCond .lt 41, 3) := by decide +kernel
theorem dX6_goTo_4 : decode cX6_goTo 4 = .ok (.iload_n 1, 1) := by decide +kernel
theorem dX6_goTo_5 : decode cX6_goTo 5 = .ok (.sipush 600, 3) := by decide +kernel
theorem dX6_goTo_8 : decode cX6_goTo 8 = .ok (.if_icmp .gt 34, 3) := by decide +kernel
theorem dX6_goTo_11 : decode cX6_goTo 11 = .ok (.aload_n 0, 1) := by decide +kernel
theorem dX6_goTo_12 : decode cX6_goTo 12 = .ok (.iload_n 1, 1) := by decide +kernel
theorem dX6_goTo_13 : decode cX6_goTo 13 = .ok (.putfield 22, 3) := by decide +kernel
theorem dX6_goTo_16 : decode cX6_goTo 16 = .ok (.aload_n 0, 1) := by decide +kernel
theorem dX6_goTo_17 : decode cX6_goTo 17 = .ok (.aload_n 0, 1) := by decide +kernel
theorem dX6_goTo_18 : decode cX6_goTo 18 = .ok (.getfield 33, 3) := by decide +kernel
theorem dX6_goTo_21 : decode cX6_goTo 21 = .ok (.getfield 53, 3) := by decide +kernel
theorem dX6_goTo_24 : decode cX6_goTo 24 = .ok (.iload_n 1, 1) := by decide +kernel
theorem dX6_goTo_25 : decode cX6_goTo 25 = .ok (.iaload, 1) := by decide +kernel
theorem dX6_goTo_26 : decode cX6_goTo 26 = .ok (.putfield 27, 3) := by decide +kernel
theorem dX6_goTo_29 : decode cX6_goTo 29 = .ok (.aload_n 0, 1) := by decide +kernel
theorem dX6_goTo_30 : decode cX6_goTo 30 = .ok (.aload_n 0, 1) := by decide +kernel
theorem dX6_goTo_31 : decode cX6_goTo 31 = .ok (.getfield 33, 3) := by decide +kernel
theorem dX6_goTo_34 : decode cX6_goTo 34 = .ok (.getfield 57, 3) := by decide +kernel
theorem dX6_goTo_37 : decode cX6_goTo 37 = .ok (.iload_n 1, 1) := by decide +kernel
theorem dX6_goTo_38 : decode cX6_goTo 38 = .ok (.iaload, 1) := by decide +kernel
theorem dX6_goTo_39 : decode cX6_goTo 39 = .ok (.putfield 30, 3) := by decide +kernel
theorem dX6_goTo_42 : decode cX6_goTo 42 = .ok (.return_, 1) := by decide +kernel
theorem kd_X6_goTo : aKd m_X6_goTo 1 := ⟨wd_27_6, wd_2_1, ⟨by decide +kernel, by decide +kernel, by decide +kernel⟩⟩
set_option maxRecDepth 100000 in
set_option maxHeartbeats 4000000 in
theorem l_X6_goTo_42   (σ : aSt) (o : Unit × aSt) (h : f_X6_goTo_42   σ = some o) : AW true m_X6_goTo 42 [] [] σ 0 0 none o.2 := by
  unfold f_X6_goTo_42 at h
  obtain rfl := Option.some.inj h
  exact w_vreturn dX6_goTo_42 rfl (Nat.le_of_ble_eq_true rfl) (Nat.le_of_ble_eq_true rfl)
set_option maxRecDepth 100000 in
set_option maxHeartbeats 4000000 in
theorem c_X6_goTo (p1 : Int32) (σ : aSt) (o : Unit × aSt) (h : f_X6_goTo p1 σ = some o) : AM true m_X6_goTo [va_rf (some (10)), .int (p1)] σ none o.2 := by
  refine AM_of2 (lv := [(0, va_rf (some (10))), (1, Value.int (p1))]) (by decide +kernel) rfl (Nat.le_of_ble_eq_true rfl) ?_
  unfold f_X6_goTo at h
  refine w_iload_n 1 dX6_goTo_0 rfl rfl ?_
  refine w_if_lt 42 dX6_goTo_1 (by decide) (fun c1 => ?_) (fun c1 => ?_)
  · replace h := e_t c1 h
    refine w_sub [] rfl ?_
    exact l_X6_goTo_42 _ _ h
  · replace h := e_f c1 h
    refine w_iload_n 1 dX6_goTo_4 rfl rfl ?_
    refine w_sipush (v := 600) dX6_goTo_5 (by decide) ?_
    refine w_icmp_gt 42 dX6_goTo_8 (by decide) (fun c2 => ?_) (fun c2 => ?_)
    · replace h := e_t c2 h
      refine w_sub [] rfl ?_
      exact l_X6_goTo_42 _ _ h
    · replace h := e_f c2 h
      refine w_aload_n 0 ((some (10))) dX6_goTo_11 rfl rfl ?_
      refine w_iload_n 1 dX6_goTo_12 rfl rfl ?_
      refine w_putI dX6_goTo_13 fl_RX6_22 (Or.inl rfl) rfl ⟨rfl, Or.inr ⟨rfl, by decide⟩⟩ ?_
      refine w_aload_n 0 ((some (10))) dX6_goTo_16 rfl rfl ?_
      refine w_aload_n 0 ((some (10))) dX6_goTo_17 rfl rfl ?_
      refine w_get (v := va_rf (some 5)) dX6_goTo_18 fl_RX6_33 ⟨rfl, Or.inr ⟨rfl, by decide⟩⟩ (aFv_k rfl) ?_
      refine w_get (v := va_rf (some 6)) dX6_goTo_21 fl_RX6_53 ⟨rfl, Or.inr ⟨rfl, by decide⟩⟩ (aFv_k rfl) ?_
      refine w_iload_n 1 dX6_goTo_24 rfl rfl ?_
      replace h := e_grd h; obtain ⟨b3, h⟩ := h
      refine w_iaload dX6_goTo_25 ⟨rfl, Or.inr ⟨rfl, by decide⟩⟩ b3 ?_
      refine w_putI dX6_goTo_26 fl_RX6_27 (Or.inl rfl) rfl ⟨rfl, Or.inr ⟨rfl, by decide⟩⟩ ?_
      refine w_aload_n 0 ((some (10))) dX6_goTo_29 rfl rfl ?_
      refine w_aload_n 0 ((some (10))) dX6_goTo_30 rfl rfl ?_
      refine w_get (v := va_rf (some 5)) dX6_goTo_31 fl_RX6_33 ⟨rfl, Or.inr ⟨rfl, by decide⟩⟩ (aFv_k rfl) ?_
      refine w_get (v := va_rf (some 7)) dX6_goTo_34 fl_RX6_57 ⟨rfl, Or.inr ⟨rfl, by decide⟩⟩ (aFv_k rfl) ?_
      refine w_iload_n 1 dX6_goTo_37 rfl rfl ?_
      replace h := e_grd h; obtain ⟨b4, h⟩ := h
      refine w_iaload dX6_goTo_38 ⟨rfl, Or.inr ⟨rfl, by decide⟩⟩ b4 ?_
      refine w_putI dX6_goTo_39 fl_RX6_30 (Or.inl rfl) rfl ⟨rfl, Or.inr ⟨rfl, by decide⟩⟩ ?_
      refine w_sub [] rfl ?_
      exact l_X6_goTo_42 _ _ h
theorem dX6_goOn_0 : decode cX6_goOn 0 = .ok (.aload_n 0, 1) := by decide +kernel
theorem dX6_goOn_1 : decode cX6_goOn 1 = .ok (.getfield 27, 3) := by decide +kernel
theorem dX6_goOn_4 : decode cX6_goOn 4 = .ok (.iconst 4, 1) := by decide +kernel
theorem dX6_goOn_5 : decode cX6_goOn 5 = .ok (.if_icmp .eq 13, 3) := by decide +kernel
theorem dX6_goOn_8 : decode cX6_goOn 8 = .ok (.aload_n 0, 1) := by decide +kernel
theorem dX6_goOn_9 : decode cX6_goOn 9 = .ok (.aload_n 0, 1) := by decide +kernel
theorem dX6_goOn_10 : decode cX6_goOn 10 = .ok (.getfield 22, 3) := by decide +kernel
theorem dX6_goOn_13 : decode cX6_goOn 13 = .ok (.iconst 1, 1) := by decide +kernel
theorem dX6_goOn_14 : decode cX6_goOn 14 = .ok (.iadd, 1) := by decide +kernel
theorem dX6_goOn_15 : decode cX6_goOn 15 = .ok (.invokevirtual 45, 3) := by decide +kernel
theorem dX6_goOn_18 : decode cX6_goOn 18 = .ok (.return_, 1) := by decide +kernel
theorem kd_X6_goOn : aKd m_X6_goOn 0 := ⟨wd_27_22, wd_2_1, ⟨by decide +kernel, by decide +kernel, by decide +kernel⟩⟩
set_option maxRecDepth 100000 in
set_option maxHeartbeats 4000000 in
theorem l_X6_goOn_18   (σ : aSt) (o : Unit × aSt) (h : f_X6_goOn_18   σ = some o) : AW true m_X6_goOn 18 [] [] σ 0 0 none o.2 := by
  unfold f_X6_goOn_18 at h
  obtain rfl := Option.some.inj h
  exact w_vreturn dX6_goOn_18 rfl (Nat.le_of_ble_eq_true rfl) (Nat.le_of_ble_eq_true rfl)
set_option maxRecDepth 100000 in
set_option maxHeartbeats 4000000 in
theorem c_X6_goOn  (σ : aSt) (o : Unit × aSt) (h : f_X6_goOn  σ = some o) : AM true m_X6_goOn [va_rf (some (10))] σ none o.2 := by
  refine AM_of2 (lv := [(0, va_rf (some (10)))]) (by decide +kernel) rfl (Nat.le_of_ble_eq_true rfl) ?_
  unfold f_X6_goOn at h
  refine w_aload_n 0 ((some (10))) dX6_goOn_0 rfl rfl ?_
  refine w_get dX6_goOn_1 fl_RX6_27 ⟨rfl, Or.inr ⟨rfl, by decide⟩⟩ (aFv_i rfl) ?_
  refine w_iconst (v := 4) dX6_goOn_4 (by decide) ?_
  refine w_icmp_eq 18 dX6_goOn_5 (by decide) (fun c1 => ?_) (fun c1 => ?_)
  · replace h := e_t c1 h
    refine w_sub [] rfl ?_
    exact l_X6_goOn_18 _ _ h
  · replace h := e_f c1 h
    refine w_aload_n 0 ((some (10))) dX6_goOn_8 rfl rfl ?_
    refine w_aload_n 0 ((some (10))) dX6_goOn_9 rfl rfl ?_
    refine w_get dX6_goOn_10 fl_RX6_22 ⟨rfl, Or.inr ⟨rfl, by decide⟩⟩ (aFv_i rfl) ?_
    refine w_iconst (v := 1) dX6_goOn_13 (by decide) ?_
    refine w_iadd dX6_goOn_14 ?_
    replace h := e_bind h; obtain ⟨q2, e3, h⟩ := h
    refine w_callV0 (M2 := m_X6_goTo) (av := [.int ((gI σ 10 4) + 1)]) (ci := 6) (c_X6_goTo _ _ _ e3) dX6_goOn_15 kd_X6_goTo wd_27_3 wd_27_4 wd_27_5 rfl rfl ⟨rfl, Or.inr ⟨rfl, by decide⟩⟩ rfl ⟨Nat.le_of_ble_eq_true rfl, Nat.le_of_ble_eq_true rfl, Nat.le_of_ble_eq_true rfl, Nat.le_of_ble_eq_true rfl⟩ (Nat.le_of_ble_eq_true rfl) ?_
    refine w_sub [] rfl ?_
    exact l_X6_goOn_18 _ _ h
theorem dX6_fail_0 : decode cX6_fail 0 = .ok (.aload_n 0, 1) := by decide +kernel
theorem dX6_fail_1 : decode cX6_fail 1 = .ok (.iload_n 1, 1) := by decide +kernel
theorem dX6_fail_2 : decode cX6_fail 2 = .ok (.putfield 9, 3) := by decide +kernel
theorem dX6_fail_5 : decode cX6_fail 5 = .ok (.aload_n 0, 1) := by decide +kernel
theorem dX6_fail_6 : decode cX6_fail 6 = .ok (.aload_n 0, 1) := by decide +kernel
theorem dX6_fail_7 : decode cX6_fail 7 = .ok (.getfield 33, 3) := by decide +kernel
theorem dX6_fail_10 : decode cX6_fail 10 = .ok (.getfield 105, 3) := by decide +kernel
theorem dX6_fail_13 : decode cX6_fail 13 = .ok (.aload_n 0, 1) := by decide +kernel
theorem dX6_fail_14 : decode cX6_fail 14 = .ok (.getfield 22, 3) := by decide +kernel
theorem dX6_fail_17 : decode cX6_fail 17 = .ok (.iaload, 1) := by decide +kernel
theorem dX6_fail_18 : decode cX6_fail 18 = .ok (.putfield 15, 3) := by decide +kernel
theorem dX6_fail_21 : decode cX6_fail 21 = .ok (.iconst 0, 1) := by decide +kernel
theorem dX6_fail_22 : decode cX6_fail 22 = .ok (.ireturn, 1) := by decide +kernel
theorem kd_X6_fail : aKd m_X6_fail 1 := ⟨wd_28_6, wd_2_1, ⟨by decide +kernel, by decide +kernel, by decide +kernel⟩⟩
set_option maxRecDepth 100000 in
set_option maxHeartbeats 4000000 in
theorem c_X6_fail (p1 : Int32) (σ : aSt) (o : Int32 × aSt) (h : f_X6_fail p1 σ = some o) : AM true m_X6_fail [va_rf (some (10)), .int (p1)] σ (some (.int o.1)) o.2 := by
  refine AM_of2 (lv := [(0, va_rf (some (10))), (1, Value.int (p1))]) (by decide +kernel) rfl (Nat.le_of_ble_eq_true rfl) ?_
  unfold f_X6_fail at h
  refine w_aload_n 0 ((some (10))) dX6_fail_0 rfl rfl ?_
  refine w_iload_n 1 dX6_fail_1 rfl rfl ?_
  refine w_putI dX6_fail_2 fl_RX6_9 (Or.inl rfl) rfl ⟨rfl, Or.inr ⟨rfl, by decide⟩⟩ ?_
  refine w_aload_n 0 ((some (10))) dX6_fail_5 rfl rfl ?_
  refine w_aload_n 0 ((some (10))) dX6_fail_6 rfl rfl ?_
  refine w_get (v := va_rf (some 5)) dX6_fail_7 fl_RX6_33 ⟨rfl, Or.inr ⟨rfl, by decide⟩⟩ (aFv_k rfl) ?_
  refine w_get (v := va_rf (some 8)) dX6_fail_10 fl_RX6_105 ⟨rfl, Or.inr ⟨rfl, by decide⟩⟩ (aFv_k rfl) ?_
  refine w_aload_n 0 ((some (10))) dX6_fail_13 rfl rfl ?_
  refine w_get dX6_fail_14 fl_RX6_22 ⟨rfl, Or.inr ⟨rfl, by decide⟩⟩ (aFv_i rfl) ?_
  replace h := e_grd h; obtain ⟨b1, h⟩ := h
  refine w_iaload dX6_fail_17 ⟨rfl, Or.inr ⟨rfl, by decide⟩⟩ b1 ?_
  refine w_putI dX6_fail_18 fl_RX6_15 (Or.inl rfl) rfl ⟨rfl, Or.inr ⟨rfl, by decide⟩⟩ ?_
  refine w_iconst (v := 0) dX6_fail_21 (by decide) ?_
  obtain rfl := Option.some.inj h
  exact w_zreturn dX6_fail_22 rfl rfl (Nat.le_of_ble_eq_true rfl) (Nat.le_of_ble_eq_true rfl)
theorem dX6_hasNumber_0 : decode cX6_hasNumber 0 = .ok (.aload_n 0, 1) := by decide +kernel
theorem dX6_hasNumber_1 : decode cX6_hasNumber 1 = .ok (.getfield 27, 3) := by decide +kernel
theorem dX6_hasNumber_4 : decode cX6_hasNumber 4 = .ok (.iconst 2, 1) := by decide +kernel
theorem dX6_hasNumber_5 : decode cX6_hasNumber 5 = .ok (.if_icmp .eq 9, 3) := by decide +kernel
theorem dX6_hasNumber_8 : decode cX6_hasNumber 8 = .ok (.aload_n 0, 1) := by decide +kernel
theorem dX6_hasNumber_9 : decode cX6_hasNumber 9 = .ok (.iconst 1, 1) := by decide +kernel
theorem dX6_hasNumber_10 : decode cX6_hasNumber 10 = .ok (.invokevirtual 74, 3) := by decide +kernel
theorem dX6_hasNumber_13 : decode cX6_hasNumber 13 = .ok (.ireturn, 1) := by decide +kernel
theorem dX6_hasNumber_14 : decode cX6_hasNumber 14 = .ok (.aload_n 0, 1) := by decide +kernel
theorem dX6_hasNumber_15 : decode cX6_hasNumber 15 = .ok (.getfield 30, 3) := by decide +kernel
theorem dX6_hasNumber_18 : decode cX6_hasNumber 18 = .ok (.iload_n 1, 1) := by decide +kernel
theorem dX6_hasNumber_19 : decode cX6_hasNumber 19 = .ok (.iload_n 2, 1) := by decide +kernel
theorem dX6_hasNumber_20 : decode cX6_hasNumber 20 = .ok (.invokestatic 60, 3) := by decide +kernel
theorem dX6_hasNumber_23 : decode cX6_hasNumber 23 = .ok (.ifCond .ne 11, 3) := by decide +kernel
theorem dX6_hasNumber_26 : decode cX6_hasNumber 26 = .ok (.aload_n 0, 1) := by decide +kernel
theorem dX6_hasNumber_27 : decode cX6_hasNumber 27 = .ok (.iconst 2, 1) := by decide +kernel
theorem dX6_hasNumber_28 : decode cX6_hasNumber 28 = .ok (.invokevirtual 74, 3) := by decide +kernel
theorem dX6_hasNumber_31 : decode cX6_hasNumber 31 = .ok (.ifCond .eq 7, 3) := by decide +kernel
theorem dX6_hasNumber_34 : decode cX6_hasNumber 34 = .ok (.iconst 1, 1) := by decide +kernel
theorem dX6_hasNumber_35 : decode cX6_hasNumber 35 = .ok (.goto 4, 3) := by decide +kernel
theorem dX6_hasNumber_38 : decode cX6_hasNumber 38 = .ok (.iconst 0, 1) := by decide +kernel
theorem dX6_hasNumber_39 : decode cX6_hasNumber 39 = .ok (.ireturn, 1) := by decide +kernel
theorem kd_X6_hasNumber : aKd m_X6_hasNumber 2 := ⟨wd_28_2, wd_2_1, ⟨by decide +kernel, by decide +kernel, by decide +kernel⟩⟩
set_option maxRecDepth 100000 in
set_option maxHeartbeats 4000000 in
theorem l_X6_hasNumber_39  (t0 : Int32) (σ : aSt) (o : Int32 × aSt) (h : f_X6_hasNumber_39  t0 σ = some o) : AW true m_X6_hasNumber 39 [] [.int (t0)] σ 0 0 (some (.int o.1)) o.2 := by
  unfold f_X6_hasNumber_39 at h
  replace h := e_grd h; obtain ⟨g11, h⟩ := h
  obtain rfl := Option.some.inj h
  exact w_zreturn dX6_hasNumber_39 rfl (e_nz g11) (Nat.le_of_ble_eq_true rfl) (Nat.le_of_ble_eq_true rfl)
set_option maxRecDepth 100000 in
set_option maxHeartbeats 4000000 in
theorem l_X6_hasNumber_34   (σ : aSt) (o : Int32 × aSt) (h : f_X6_hasNumber_34   σ = some o) : AW true m_X6_hasNumber 34 [] [] σ 0 0 (some (.int o.1)) o.2 := by
  unfold f_X6_hasNumber_34 at h
  refine w_iconst (v := 1) dX6_hasNumber_34 (by decide) ?_
  refine w_goto 39 dX6_hasNumber_35 (by decide) ?_
  exact l_X6_hasNumber_39 _ _ _ h
set_option maxRecDepth 100000 in
set_option maxHeartbeats 4000000 in
theorem c_X6_hasNumber (p1 : Int32) (p2 : Int32) (σ : aSt) (o : Int32 × aSt) (h : f_X6_hasNumber p1 p2 σ = some o) : AM true m_X6_hasNumber [va_rf (some (10)), .int (p1), .int (p2)] σ (some (.int o.1)) o.2 := by
  refine AM_of2 (lv := [(0, va_rf (some (10))), (1, Value.int (p1)), (2, Value.int (p2))]) (by decide +kernel) rfl (Nat.le_of_ble_eq_true rfl) ?_
  unfold f_X6_hasNumber at h
  refine w_aload_n 0 ((some (10))) dX6_hasNumber_0 rfl rfl ?_
  refine w_get dX6_hasNumber_1 fl_RX6_27 ⟨rfl, Or.inr ⟨rfl, by decide⟩⟩ (aFv_i rfl) ?_
  refine w_iconst (v := 2) dX6_hasNumber_4 (by decide) ?_
  refine w_icmp_eq 14 dX6_hasNumber_5 (by decide) (fun c1 => ?_) (fun c1 => ?_)
  · replace h := e_t c1 h
    refine w_aload_n 0 ((some (10))) dX6_hasNumber_14 rfl rfl ?_
    refine w_get dX6_hasNumber_15 fl_RX6_30 ⟨rfl, Or.inr ⟨rfl, by decide⟩⟩ (aFv_i rfl) ?_
    refine w_iload_n 1 dX6_hasNumber_18 rfl rfl ?_
    refine w_iload_n 2 dX6_hasNumber_19 rfl rfl ?_
    replace h := e_bind h; obtain ⟨q2, e3, h⟩ := h
    refine w_callSN1 (M2 := m_X11_within) (av := [.int (gI σ 10 6), .int (p1), .int (p2)]) (host := RX11) (c_X11_within _ _ _ _ _ e3) dX6_hasNumber_20 kd_X11_within (by decide +kernel) wd_9_23 rfl rfl ⟨Nat.le_of_ble_eq_true rfl, Nat.le_of_ble_eq_true rfl, Nat.le_of_ble_eq_true rfl, Nat.le_of_ble_eq_true rfl⟩ (Nat.le_of_ble_eq_true rfl) ?_
    refine w_if_ne 34 dX6_hasNumber_23 (by decide) (fun c4 => ?_) (fun c4 => ?_)
    · replace h := e_f c4 h
      refine w_sub [] rfl ?_
      exact l_X6_hasNumber_34 _ _ h
    · replace h := e_t c4 h
      refine w_aload_n 0 ((some (10))) dX6_hasNumber_26 rfl rfl ?_
      refine w_iconst (v := 2) dX6_hasNumber_27 (by decide) ?_
      replace h := e_bind h; obtain ⟨q5, e6, h⟩ := h
      refine w_callV1 (M2 := m_X6_fail) (av := [.int (2)]) (ci := 6) (c_X6_fail _ _ _ e6) dX6_hasNumber_28 kd_X6_fail wd_28_3 wd_28_4 wd_28_5 rfl rfl ⟨rfl, Or.inr ⟨rfl, by decide⟩⟩ rfl ⟨Nat.le_of_ble_eq_true rfl, Nat.le_of_ble_eq_true rfl, Nat.le_of_ble_eq_true rfl, Nat.le_of_ble_eq_true rfl⟩ (Nat.le_of_ble_eq_true rfl) ?_
      refine w_if_eq 38 dX6_hasNumber_31 (by decide) (fun c7 => ?_) (fun c7 => ?_)
      · replace h := e_t c7 h
        refine w_iconst (v := 0) dX6_hasNumber_38 (by decide) ?_
        refine w_sub [] rfl ?_
        exact l_X6_hasNumber_39 _ _ _ h
      · replace h := e_f c7 h
        refine w_sub [] rfl ?_
        exact l_X6_hasNumber_34 _ _ h
  · replace h := e_f c1 h
    refine w_aload_n 0 ((some (10))) dX6_hasNumber_8 rfl rfl ?_
    refine w_iconst (v := 1) dX6_hasNumber_9 (by decide) ?_
    replace h := e_bind h; obtain ⟨q8, e9, h⟩ := h
    refine w_callV1 (M2 := m_X6_fail) (av := [.int (1)]) (ci := 6) (c_X6_fail _ _ _ e9) dX6_hasNumber_10 kd_X6_fail wd_28_3 wd_28_4 wd_28_5 rfl rfl ⟨rfl, Or.inr ⟨rfl, by decide⟩⟩ rfl ⟨Nat.le_of_ble_eq_true rfl, Nat.le_of_ble_eq_true rfl, Nat.le_of_ble_eq_true rfl, Nat.le_of_ble_eq_true rfl⟩ (Nat.le_of_ble_eq_true rfl) ?_
    replace h := e_grd h; obtain ⟨g10, h⟩ := h
    obtain rfl := Option.some.inj h
    exact w_zreturn dX6_hasNumber_13 rfl (e_nz g10) (Nat.le_of_ble_eq_true rfl) (Nat.le_of_ble_eq_true rfl)
theorem dX6_passEnd_0 : decode cX6_passEnd 0 = .ok (.aload_n 0, 1) := by decide +kernel
theorem dX6_passEnd_1 : decode cX6_passEnd 1 = .ok (.getfield 27, 3) := by decide +kernel
theorem dX6_passEnd_4 : decode cX6_passEnd 4 = .ok (.iconst 3, 1) := by decide +kernel
theorem dX6_passEnd_5 : decode cX6_passEnd 5 = .ok (.if_icmp .ne 12, 3) := by decide +kernel
theorem dX6_passEnd_8 : decode cX6_passEnd 8 = .ok (.aload_n 0, 1) := by decide +kernel
theorem dX6_passEnd_9 : decode cX6_passEnd 9 = .ok (.getfield 30, 3) := by decide +kernel
theorem dX6_passEnd_12 : decode cX6_passEnd 12 = .ok (.bipush 59, 2) := by decide +kernel
theorem dX6_passEnd_14 : decode cX6_passEnd 14 = .ok (.if_icmp .eq 9, 3) := by decide +kernel
theorem dX6_passEnd_17 : decode cX6_passEnd 17 = .ok (.aload_n 0, 1) := by decide +kernel
theorem dX6_passEnd_18 : decode cX6_passEnd 18 = .ok (.iconst 1, 1) := by decide +kernel
theorem dX6_passEnd_19 : decode cX6_passEnd 19 = .ok (.invokevirtual 74, 3) := by decide +kernel
theorem dX6_passEnd_22 : decode cX6_passEnd 22 = .ok (.ireturn, 1) := by decide +kernel
theorem dX6_passEnd_23 : decode cX6_passEnd 23 = .ok (.aload_n 0, 1) := by decide +kernel
theorem dX6_passEnd_24 : decode cX6_passEnd 24 = .ok (.invokevirtual 77, 3) := by decide +kernel
theorem dX6_passEnd_27 : decode cX6_passEnd 27 = .ok (.iconst 1, 1) := by decide +kernel
theorem dX6_passEnd_28 : decode cX6_passEnd 28 = .ok (.ireturn, 1) := by decide +kernel
theorem kd_X6_passEnd : aKd m_X6_passEnd 0 := ⟨wd_28_11, wd_2_1, ⟨by decide +kernel, by decide +kernel, by decide +kernel⟩⟩
set_option maxRecDepth 100000 in
set_option maxHeartbeats 4000000 in
theorem l_X6_passEnd_17   (σ : aSt) (o : Int32 × aSt) (h : f_X6_passEnd_17   σ = some o) : AW true m_X6_passEnd 17 [(0, va_rf (some (10)))] [] σ 0 0 (some (.int o.1)) o.2 := by
  unfold f_X6_passEnd_17 at h
  refine w_aload_n 0 ((some (10))) dX6_passEnd_17 rfl rfl ?_
  refine w_iconst (v := 1) dX6_passEnd_18 (by decide) ?_
  replace h := e_bind h; obtain ⟨q5, e6, h⟩ := h
  refine w_callV1 (M2 := m_X6_fail) (av := [.int (1)]) (ci := 6) (c_X6_fail _ _ _ e6) dX6_passEnd_19 kd_X6_fail wd_28_3 wd_28_4 wd_28_5 rfl rfl ⟨rfl, Or.inr ⟨rfl, by decide⟩⟩ rfl ⟨Nat.le_of_ble_eq_true rfl, Nat.le_of_ble_eq_true rfl, Nat.le_of_ble_eq_true rfl, Nat.le_of_ble_eq_true rfl⟩ (Nat.le_of_ble_eq_true rfl) ?_
  replace h := e_grd h; obtain ⟨g7, h⟩ := h
  obtain rfl := Option.some.inj h
  exact w_zreturn dX6_passEnd_22 rfl (e_nz g7) (Nat.le_of_ble_eq_true rfl) (Nat.le_of_ble_eq_true rfl)
set_option maxRecDepth 100000 in
set_option maxHeartbeats 4000000 in
theorem c_X6_passEnd  (σ : aSt) (o : Int32 × aSt) (h : f_X6_passEnd  σ = some o) : AM true m_X6_passEnd [va_rf (some (10))] σ (some (.int o.1)) o.2 := by
  refine AM_of2 (lv := [(0, va_rf (some (10)))]) (by decide +kernel) rfl (Nat.le_of_ble_eq_true rfl) ?_
  unfold f_X6_passEnd at h
  refine w_aload_n 0 ((some (10))) dX6_passEnd_0 rfl rfl ?_
  refine w_get dX6_passEnd_1 fl_RX6_27 ⟨rfl, Or.inr ⟨rfl, by decide⟩⟩ (aFv_i rfl) ?_
  refine w_iconst (v := 3) dX6_passEnd_4 (by decide) ?_
  refine w_icmp_ne 17 dX6_passEnd_5 (by decide) (fun c1 => ?_) (fun c1 => ?_)
  · replace h := e_f c1 h
    exact l_X6_passEnd_17 _ _ h
  · replace h := e_t c1 h
    refine w_aload_n 0 ((some (10))) dX6_passEnd_8 rfl rfl ?_
    refine w_get dX6_passEnd_9 fl_RX6_30 ⟨rfl, Or.inr ⟨rfl, by decide⟩⟩ (aFv_i rfl) ?_
    refine w_bipush (v := 59) dX6_passEnd_12 (by decide) ?_
    refine w_icmp_eq 23 dX6_passEnd_14 (by decide) (fun c2 => ?_) (fun c2 => ?_)
    · replace h := e_t c2 h
      refine w_aload_n 0 ((some (10))) dX6_passEnd_23 rfl rfl ?_
      replace h := e_bind h; obtain ⟨q3, e4, h⟩ := h
      refine w_callV0 (M2 := m_X6_goOn) (av := []) (ci := 6) (c_X6_goOn  _ _ e4) dX6_passEnd_24 kd_X6_goOn wd_27_19 wd_27_20 wd_27_21 rfl rfl ⟨rfl, Or.inr ⟨rfl, by decide⟩⟩ rfl ⟨Nat.le_of_ble_eq_true rfl, Nat.le_of_ble_eq_true rfl, Nat.le_of_ble_eq_true rfl, Nat.le_of_ble_eq_true rfl⟩ (Nat.le_of_ble_eq_true rfl) ?_
      refine w_iconst (v := 1) dX6_passEnd_27 (by decide) ?_
      obtain rfl := Option.some.inj h
      exact w_zreturn dX6_passEnd_28 rfl rfl (Nat.le_of_ble_eq_true rfl) (Nat.le_of_ble_eq_true rfl)
    · replace h := e_f c2 h
      exact l_X6_passEnd_17 _ _ h
theorem dX6_readLimit_0 : decode cX6_readLimit 0 = .ok (.iload_n 1, 1) := by decide +kernel
theorem dX6_readLimit_1 : decode cX6_readLimit 1 = .ok (.ifCond .eq 8, 3) := by decide +kernel
theorem dX6_readLimit_4 : decode cX6_readLimit 4 = .ok (.iload_n 1, 1) := by decide +kernel
theorem dX6_readLimit_5 : decode cX6_readLimit 5 = .ok (.iconst 1, 1) := by decide +kernel
theorem dX6_readLimit_6 : decode cX6_readLimit 6 = .ok (.if_icmp .ne 7, 3) := by decide +kernel
theorem dX6_readLimit_9 : decode cX6_readLimit 9 = .ok (.iconst 1, 1) := by decide +kernel
theorem dX6_readLimit_10 : decode cX6_readLimit 10 = .ok (.goto 4, 3) := by decide +kernel
theorem dX6_readLimit_13 : decode cX6_readLimit 13 = .ok (.iconst 0, 1) := by decide +kernel
theorem dX6_readLimit_14 : decode cX6_readLimit 14 = .ok (.istore_n 2, 1) := by decide +kernel
theorem dX6_readLimit_15 : decode cX6_readLimit 15 = .ok (.aload_n 0, 1) := by decide +kernel
theorem dX6_readLimit_16 : decode cX6_readLimit 16 = .ok (.invokevirtual 77, 3) := by decide +kernel
theorem dX6_readLimit_19 : decode cX6_readLimit 19 = .ok (.aload_n 0, 1) := by decide +kernel
theorem dX6_readLimit_20 : decode cX6_readLimit 20 = .ok (.iload_n 2, 1) := by decide +kernel
theorem dX6_readLimit_21 : decode cX6_readLimit 21 = .ok (.ifCond .eq 7, 3) := by decide +kernel
theorem dX6_readLimit_24 : decode cX6_readLimit 24 = .ok (.iconst 1, 1) := by decide +kernel
theorem dX6_readLimit_25 : decode cX6_readLimit 25 = .ok (.goto 4, 3) := by decide +kernel
theorem dX6_readLimit_28 : decode cX6_readLimit 28 = .ok (.iconst 0, 1) := by decide +kernel
theorem dX6_readLimit_29 : decode cX6_readLimit 29 = .ok (.iload_n 2, 1) := by decide +kernel
theorem dX6_readLimit_30 : decode cX6_readLimit 30 = .ok (.ifCond .eq 8, 3) := by decide +kernel
theorem dX6_readLimit_33 : decode cX6_readLimit 33 = .ok (.ldc 80, 2) := by decide +kernel
theorem dX6_readLimit_35 : decode cX6_readLimit 35 = .ok (.goto 6, 3) := by decide +kernel
theorem dX6_readLimit_38 : decode cX6_readLimit 38 = .ok (.sipush 20000, 3) := by decide +kernel
theorem dX6_readLimit_41 : decode cX6_readLimit 41 = .ok (.invokevirtual 81, 3) := by decide +kernel
theorem dX6_readLimit_44 : decode cX6_readLimit 44 = .ok (.ifCond .ne 5, 3) := by decide +kernel
theorem dX6_readLimit_47 : decode cX6_readLimit 47 = .ok (.iconst 0, 1) := by decide +kernel
theorem dX6_readLimit_48 : decode cX6_readLimit 48 = .ok (.ireturn, 1) := by decide +kernel
theorem dX6_readLimit_49 : decode cX6_readLimit 49 = .ok (.aload_n 0, 1) := by decide +kernel
theorem dX6_readLimit_50 : decode cX6_readLimit 50 = .ok (.getfield 18, 3) := by decide +kernel
theorem dX6_readLimit_53 : decode cX6_readLimit 53 = .ok (.getfield 85, 3) := by decide +kernel
theorem dX6_readLimit_56 : decode cX6_readLimit 56 = .ok (.iload_n 1, 1) := by decide +kernel
theorem dX6_readLimit_57 : decode cX6_readLimit 57 = .ok (.aload_n 0, 1) := by decide +kernel
theorem dX6_readLimit_58 : decode cX6_readLimit 58 = .ok (.getfield 30, 3) := by decide +kernel
theorem dX6_readLimit_61 : decode cX6_readLimit 61 = .ok (.iastore, 1) := by decide +kernel
theorem dX6_readLimit_62 : decode cX6_readLimit 62 = .ok (.aload_n 0, 1) := by decide +kernel
theorem dX6_readLimit_63 : decode cX6_readLimit 63 = .ok (.invokevirtual 77, 3) := by decide +kernel
theorem dX6_readLimit_66 : decode cX6_readLimit 66 = .ok (.aload_n 0, 1) := by decide +kernel
theorem dX6_readLimit_67 : decode cX6_readLimit 67 = .ok (.invokevirtual 88, 3) := by decide +kernel
theorem dX6_readLimit_70 : decode cX6_readLimit 70 = .ok (.ireturn, 1) := by decide +kernel
theorem kd_X6_readLimit : aKd m_X6_readLimit 1 := ⟨wd_27_16, wd_2_1, ⟨by decide +kernel, by decide +kernel, by decide +kernel⟩⟩
set_option maxRecDepth 100000 in
set_option maxHeartbeats 4000000 in
theorem l_X6_readLimit_41  (x1 : Int32) (t1 : Int32) (t2 : Int32) (σ : aSt) (o : Int32 × aSt) (h : f_X6_readLimit_41  x1 t1 t2 σ = some o) : AW true m_X6_readLimit 41 [(0, va_rf (some (10))), (1, Value.int (x1))] [.int (t2), .int (t1), va_rf (some (10))] σ 0 0 (some (.int o.1)) o.2 := by
  unfold f_X6_readLimit_41 at h
  replace h := e_bind h; obtain ⟨q3, e4, h⟩ := h
  refine w_callV1 (M2 := m_X6_hasNumber) (av := [.int (t1), .int (t2)]) (ci := 6) (c_X6_hasNumber _ _ _ _ e4) dX6_readLimit_41 kd_X6_hasNumber wd_27_23 wd_28_0 wd_28_1 rfl rfl ⟨rfl, Or.inr ⟨rfl, by decide⟩⟩ rfl ⟨Nat.le_of_ble_eq_true rfl, Nat.le_of_ble_eq_true rfl, Nat.le_of_ble_eq_true rfl, Nat.le_of_ble_eq_true rfl⟩ (Nat.le_of_ble_eq_true rfl) ?_
  refine w_if_ne 49 dX6_readLimit_44 (by decide) (fun c5 => ?_) (fun c5 => ?_)
  · replace h := e_f c5 h
    refine w_aload_n 0 ((some (10))) dX6_readLimit_49 rfl rfl ?_
    refine w_get dX6_readLimit_50 fl_RX6_18 ⟨rfl, Or.inr ⟨rfl, by decide⟩⟩ (aFv_q (Or.inl rfl)) ?_
    replace h := e_oS h; obtain ⟨a6, r7, h⟩ := h
    rw [r7]
    replace h := e_grd h; obtain ⟨g8, h⟩ := h
    refine w_get (v := va_rf (some ((a6 + 1)))) dX6_readLimit_53 fl_RX6_85 ⟨g8.1, Or.inl g8.2⟩ (aFv_k rfl) ?_
    refine w_iload_n 1 dX6_readLimit_56 rfl rfl ?_
    refine w_aload_n 0 ((some (10))) dX6_readLimit_57 rfl rfl ?_
    refine w_get dX6_readLimit_58 fl_RX6_30 ⟨rfl, Or.inr ⟨rfl, by decide⟩⟩ (aFv_i rfl) ?_
    replace h := e_grd h; obtain ⟨g9, h⟩ := h
    replace h := e_grd h; obtain ⟨b10, h⟩ := h
    refine w_iastore dX6_readLimit_61 ⟨g9.1, Or.inl g9.2⟩ b10 ?_
    refine w_aload_n 0 ((some (10))) dX6_readLimit_62 rfl rfl ?_
    replace h := e_bind h; obtain ⟨q11, e12, h⟩ := h
    refine w_callV0 (M2 := m_X6_goOn) (av := []) (ci := 6) (c_X6_goOn  _ _ e12) dX6_readLimit_63 kd_X6_goOn wd_27_19 wd_27_20 wd_27_21 rfl rfl ⟨rfl, Or.inr ⟨rfl, by decide⟩⟩ rfl ⟨Nat.le_of_ble_eq_true rfl, Nat.le_of_ble_eq_true rfl, Nat.le_of_ble_eq_true rfl, Nat.le_of_ble_eq_true rfl⟩ (Nat.le_of_ble_eq_true rfl) ?_
    refine w_aload_n 0 ((some (10))) dX6_readLimit_66 rfl rfl ?_
    replace h := e_bind h; obtain ⟨q13, e14, h⟩ := h
    refine w_callV1 (M2 := m_X6_passEnd) (av := []) (ci := 6) (c_X6_passEnd  _ _ e14) dX6_readLimit_67 kd_X6_passEnd wd_28_8 wd_28_9 wd_28_10 rfl rfl ⟨rfl, Or.inr ⟨rfl, by decide⟩⟩ rfl ⟨Nat.le_of_ble_eq_true rfl, Nat.le_of_ble_eq_true rfl, Nat.le_of_ble_eq_true rfl, Nat.le_of_ble_eq_true rfl⟩ (Nat.le_of_ble_eq_true rfl) ?_
    replace h := e_grd h; obtain ⟨g15, h⟩ := h
    obtain rfl := Option.some.inj h
    exact w_zreturn dX6_readLimit_70 rfl (e_nz g15) (Nat.le_of_ble_eq_true rfl) (Nat.le_of_ble_eq_true rfl)
  · replace h := e_t c5 h
    refine w_iconst (v := 0) dX6_readLimit_47 (by decide) ?_
    obtain rfl := Option.some.inj h
    exact w_zreturn dX6_readLimit_48 rfl rfl (Nat.le_of_ble_eq_true rfl) (Nat.le_of_ble_eq_true rfl)
set_option maxRecDepth 100000 in
set_option maxHeartbeats 4000000 in
theorem l_X6_readLimit_29  (x1 : Int32) (x2 : Int32) (t1 : Int32) (σ : aSt) (o : Int32 × aSt) (h : f_X6_readLimit_29  x1 x2 t1 σ = some o) : AW true m_X6_readLimit 29 [(0, va_rf (some (10))), (1, Value.int (x1)), (2, Value.int (x2))] [.int (t1), va_rf (some (10))] σ 0 0 (some (.int o.1)) o.2 := by
  unfold f_X6_readLimit_29 at h
  refine w_iload_n 2 dX6_readLimit_29 rfl rfl ?_
  refine w_if_eq 38 dX6_readLimit_30 (by decide) (fun c16 => ?_) (fun c16 => ?_)
  · replace h := e_t c16 h
    refine w_sipush (v := 20000) dX6_readLimit_38 (by decide) ?_
    refine w_sub [0, 1] rfl ?_
    exact l_X6_readLimit_41 _ _ _ _ _ h
  · replace h := e_f c16 h
    refine w_ldc (v := 100000) dX6_readLimit_33 wd_27_17 ?_
    refine w_goto 41 dX6_readLimit_35 (by decide) ?_
    refine w_sub [0, 1] rfl ?_
    exact l_X6_readLimit_41 _ _ _ _ _ h
set_option maxRecDepth 100000 in
set_option maxHeartbeats 4000000 in
theorem l_X6_readLimit_14  (x1 : Int32) (t0 : Int32) (σ : aSt) (o : Int32 × aSt) (h : f_X6_readLimit_14  x1 t0 σ = some o) : AW true m_X6_readLimit 14 [(0, va_rf (some (10))), (1, Value.int (x1))] [.int (t0)] σ 0 0 (some (.int o.1)) o.2 := by
  unfold f_X6_readLimit_14 at h
  refine w_istore_n dX6_readLimit_14 rfl (by decide) rfl ?_
  refine w_aload_n 1 ((some (10))) dX6_readLimit_15 rfl rfl ?_
  replace h := e_bind h; obtain ⟨q17, e18, h⟩ := h
  refine w_callV0 (M2 := m_X6_goOn) (av := []) (ci := 6) (c_X6_goOn  _ _ e18) dX6_readLimit_16 kd_X6_goOn wd_27_19 wd_27_20 wd_27_21 rfl rfl ⟨rfl, Or.inr ⟨rfl, by decide⟩⟩ rfl ⟨Nat.le_of_ble_eq_true rfl, Nat.le_of_ble_eq_true rfl, Nat.le_of_ble_eq_true rfl, Nat.le_of_ble_eq_true rfl⟩ (Nat.le_of_ble_eq_true rfl) ?_
  refine w_aload_n 1 ((some (10))) dX6_readLimit_19 rfl rfl ?_
  refine w_iload_n 0 dX6_readLimit_20 rfl rfl ?_
  refine w_if_eq 28 dX6_readLimit_21 (by decide) (fun c19 => ?_) (fun c19 => ?_)
  · replace h := e_t c19 h
    refine w_iconst (v := 0) dX6_readLimit_28 (by decide) ?_
    refine w_sub [1, 2, 0] rfl ?_
    exact l_X6_readLimit_29 _ _ _ _ _ h
  · replace h := e_f c19 h
    refine w_iconst (v := 1) dX6_readLimit_24 (by decide) ?_
    refine w_goto 29 dX6_readLimit_25 (by decide) ?_
    refine w_sub [1, 2, 0] rfl ?_
    exact l_X6_readLimit_29 _ _ _ _ _ h
set_option maxRecDepth 100000 in
set_option maxHeartbeats 4000000 in
theorem l_X6_readLimit_9  (x1 : Int32) (σ : aSt) (o : Int32 × aSt) (h : f_X6_readLimit_9  x1 σ = some o) : AW true m_X6_readLimit 9 [(0, va_rf (some (10))), (1, Value.int (x1))] [] σ 0 0 (some (.int o.1)) o.2 := by
  unfold f_X6_readLimit_9 at h
  refine w_iconst (v := 1) dX6_readLimit_9 (by decide) ?_
  refine w_goto 14 dX6_readLimit_10 (by decide) ?_
  exact l_X6_readLimit_14 _ _ _ _ h
set_option maxRecDepth 100000 in
set_option maxHeartbeats 4000000 in
theorem c_X6_readLimit (p1 : Int32) (σ : aSt) (o : Int32 × aSt) (h : f_X6_readLimit p1 σ = some o) : AM true m_X6_readLimit [va_rf (some (10)), .int (p1)] σ (some (.int o.1)) o.2 := by
  refine AM_of2 (lv := [(0, va_rf (some (10))), (1, Value.int (p1))]) (by decide +kernel) rfl (Nat.le_of_ble_eq_true rfl) ?_
  unfold f_X6_readLimit at h
  refine w_iload_n 1 dX6_readLimit_0 rfl rfl ?_
  refine w_if_eq 9 dX6_readLimit_1 (by decide) (fun c1 => ?_) (fun c1 => ?_)
  · replace h := e_t c1 h
    exact l_X6_readLimit_9 _ _ _ h
  · replace h := e_f c1 h
    refine w_iload_n 1 dX6_readLimit_4 rfl rfl ?_
    refine w_iconst (v := 1) dX6_readLimit_5 (by decide) ?_
    refine w_icmp_ne 13 dX6_readLimit_6 (by decide) (fun c2 => ?_) (fun c2 => ?_)
    · replace h := e_f c2 h
      refine w_iconst (v := 0) dX6_readLimit_13 (by decide) ?_
      exact l_X6_readLimit_14 _ _ _ _ h
    · replace h := e_t c2 h
      exact l_X6_readLimit_9 _ _ _ h
theorem dX6_isWord_0 : decode cX6_isWord 0 = .ok (.aload_n 0, 1) := by decide +kernel
theorem dX6_isWord_1 : decode cX6_isWord 1 = .ok (.getfield 27, 3) := by decide +kernel
theorem dX6_isWord_4 : decode cX6_isWord 4 = .ok (.iconst 1, 1) := by decide +kernel
theorem dX6_isWord_5 : decode cX6_isWord 5 = .ok (.if_icmp .ne 15, 3) := by decide +kernel
theorem dX6_isWord_8 : decode cX6_isWord 8 = .ok (.aload_n 0, 1) := by decide +kernel
theorem dX6_isWord_9 : decode cX6_isWord 9 = .ok (.getfield 30, 3) := by decide +kernel
theorem dX6_isWord_12 : decode cX6_isWord 12 = .ok (.iload_n 1, 1) := by decide +kernel
theorem dX6_isWord_13 : decode cX6_isWord 13 = .ok (.if_icmp .ne 7, 3) := by decide +kernel
theorem dX6_isWord_16 : decode cX6_isWord 16 = .ok (.iconst 1, 1) := by decide +kernel
theorem dX6_isWord_17 : decode cX6_isWord 17 = .ok (.goto 4, 3) := by decide +kernel
theorem dX6_isWord_20 : decode cX6_isWord 20 = .ok (.iconst 0, 1) := by decide +kernel
theorem dX6_isWord_21 : decode cX6_isWord 21 = .ok (.ireturn, 1) := by decide +kernel
theorem kd_X6_isWord : aKd m_X6_isWord 1 := ⟨wd_28_15, wd_2_1, ⟨by decide +kernel, by decide +kernel, by decide +kernel⟩⟩
set_option maxRecDepth 100000 in
set_option maxHeartbeats 4000000 in
theorem l_X6_isWord_21  (t0 : Int32) (σ : aSt) (o : Int32 × aSt) (h : f_X6_isWord_21  t0 σ = some o) : AW true m_X6_isWord 21 [] [.int (t0)] σ 0 0 (some (.int o.1)) o.2 := by
  unfold f_X6_isWord_21 at h
  replace h := e_grd h; obtain ⟨g3, h⟩ := h
  obtain rfl := Option.some.inj h
  exact w_zreturn dX6_isWord_21 rfl (e_nz g3) (Nat.le_of_ble_eq_true rfl) (Nat.le_of_ble_eq_true rfl)
set_option maxRecDepth 100000 in
set_option maxHeartbeats 4000000 in
theorem l_X6_isWord_20   (σ : aSt) (o : Int32 × aSt) (h : f_X6_isWord_20   σ = some o) : AW true m_X6_isWord 20 [] [] σ 0 0 (some (.int o.1)) o.2 := by
  unfold f_X6_isWord_20 at h
  refine w_iconst (v := 0) dX6_isWord_20 (by decide) ?_
  exact l_X6_isWord_21 _ _ _ h
set_option maxRecDepth 100000 in
set_option maxHeartbeats 4000000 in
theorem c_X6_isWord (p1 : Int32) (σ : aSt) (o : Int32 × aSt) (h : f_X6_isWord p1 σ = some o) : AM true m_X6_isWord [va_rf (some (10)), .int (p1)] σ (some (.int o.1)) o.2 := by
  refine AM_of2 (lv := [(0, va_rf (some (10))), (1, Value.int (p1))]) (by decide +kernel) rfl (Nat.le_of_ble_eq_true rfl) ?_
  unfold f_X6_isWord at h
  refine w_aload_n 0 ((some (10))) dX6_isWord_0 rfl rfl ?_
  refine w_get dX6_isWord_1 fl_RX6_27 ⟨rfl, Or.inr ⟨rfl, by decide⟩⟩ (aFv_i rfl) ?_
  refine w_iconst (v := 1) dX6_isWord_4 (by decide) ?_
  refine w_icmp_ne 20 dX6_isWord_5 (by decide) (fun c1 => ?_) (fun c1 => ?_)
  · replace h := e_f c1 h
    refine w_sub [] rfl ?_
    exact l_X6_isWord_20 _ _ h
  · replace h := e_t c1 h
    refine w_aload_n 0 ((some (10))) dX6_isWord_8 rfl rfl ?_
    refine w_get dX6_isWord_9 fl_RX6_30 ⟨rfl, Or.inr ⟨rfl, by decide⟩⟩ (aFv_i rfl) ?_
    refine w_iload_n 1 dX6_isWord_12 rfl rfl ?_
    refine w_icmp_ne 20 dX6_isWord_13 (by decide) (fun c2 => ?_) (fun c2 => ?_)
    · replace h := e_f c2 h
      refine w_sub [] rfl ?_
      exact l_X6_isWord_20 _ _ h
    · replace h := e_t c2 h
      refine w_iconst (v := 1) dX6_isWord_16 (by decide) ?_
      refine w_goto 21 dX6_isWord_17 (by decide) ?_
      refine w_sub [] rfl ?_
      exact l_X6_isWord_21 _ _ _ h
theorem dX8_addRule_0 : decode cX8_addRule 0 = .ok (.aload_n 0, 1) := by decide +kernel
theorem dX8_addRule_1 : decode cX8_addRule 1 = .ok (.getfield 15, 3) := by decide +kernel
theorem dX8_addRule_4 : decode cX8_addRule 4 = .ok (.bipush 12, 2) := by decide +kernel
theorem dX8_addRule_6 : decode cX8_addRule 6 = .ok (.if_icmp .ge 33, 3) := by decide +kernel
theorem dX8_addRule_9 : decode cX8_addRule 9 = .ok (.aload_n 0, 1) := by decide +kernel
theorem dX8_addRule_10 : decode cX8_addRule 10 = .ok (.getfield 19, 3) := by decide +kernel
theorem dX8_addRule_13 : decode cX8_addRule 13 = .ok (.aload_n 0, 1) := by decide +kernel
theorem dX8_addRule_14 : decode cX8_addRule 14 = .ok (.getfield 15, 3) := by decide +kernel
theorem dX8_addRule_17 : decode cX8_addRule 17 = .ok (.iload_n 1, 1) := by decide +kernel
theorem dX8_addRule_18 : decode cX8_addRule 18 = .ok (.iastore, 1) := by decide +kernel
theorem dX8_addRule_19 : decode cX8_addRule 19 = .ok (.aload_n 0, 1) := by decide +kernel
theorem dX8_addRule_20 : decode cX8_addRule 20 = .ok (.getfield 22, 3) := by decide +kernel
theorem dX8_addRule_23 : decode cX8_addRule 23 = .ok (.aload_n 0, 1) := by decide +kernel
theorem dX8_addRule_24 : decode cX8_addRule 24 = .ok (.getfield 15, 3) := by decide +kernel
theorem dX8_addRule_27 : decode cX8_addRule 27 = .ok (.iconst 0, 1) := by decide +kernel
theorem dX8_addRule_28 : decode cX8_addRule 28 = .ok (.iastore, 1) := by decide +kernel
theorem dX8_addRule_29 : decode cX8_addRule 29 = .ok (.aload_n 0, 1) := by decide +kernel
theorem dX8_addRule_30 : decode cX8_addRule 30 = .ok (.dup, 1) := by decide +kernel
theorem dX8_addRule_31 : decode cX8_addRule 31 = .ok (.getfield 15, 3) := by decide +kernel
theorem dX8_addRule_34 : decode cX8_addRule 34 = .ok (.iconst 1, 1) := by decide +kernel
theorem dX8_addRule_35 : decode cX8_addRule 35 = .ok (.iadd, 1) := by decide +kernel
theorem dX8_addRule_36 : decode cX8_addRule 36 = .ok (.putfield 15, 3) := by decide +kernel
theorem dX8_addRule_39 : decode cX8_addRule 39 = .ok (.return_, 1) := by decide +kernel
theorem kd_X8_addRule : aKd m_X8_addRule 1 := ⟨wd_29_0, wd_2_21, ⟨by decide +kernel, by decide +kernel, by decide +kernel⟩⟩
set_option maxRecDepth 100000 in
set_option maxHeartbeats 4000000 in
theorem l_X8_addRule_39   (σ : aSt) (o : Unit × aSt) (h : f_X8_addRule_39   σ = some o) : AW true m_X8_addRule 39 [] [] σ 0 0 none o.2 := by
  unfold f_X8_addRule_39 at h
  obtain rfl := Option.some.inj h
  exact w_vreturn dX8_addRule_39 rfl (Nat.le_of_ble_eq_true rfl) (Nat.le_of_ble_eq_true rfl)
set_option maxRecDepth 100000 in
set_option maxHeartbeats 4000000 in
theorem c_X8_addRule (p0 : Nat) (p1 : Int32) (σ : aSt) (o : Unit × aSt) (h : f_X8_addRule p0 p1 σ = some o) : AM true m_X8_addRule [va_rf (some (p0)), .int (p1)] σ none o.2 := by
  refine AM_of2 (lv := [(0, va_rf (some (p0))), (1, Value.int (p1))]) (by decide +kernel) rfl (Nat.le_of_ble_eq_true rfl) ?_
  unfold f_X8_addRule at h
  refine w_aload_n 0 ((some (p0))) dX8_addRule_0 rfl rfl ?_
  replace h := e_grd h; obtain ⟨g1, h⟩ := h
  refine w_get dX8_addRule_1 fl_RX8_15 ⟨g1.1, Or.inl g1.2⟩ (aFv_i rfl) ?_
  refine w_bipush (v := 12) dX8_addRule_4 (by decide) ?_
  refine w_icmp_ge 39 dX8_addRule_6 (by decide) (fun c2 => ?_) (fun c2 => ?_)
  · replace h := e_t c2 h
    refine w_sub [] rfl ?_
    exact l_X8_addRule_39 _ _ h
  · replace h := e_f c2 h
    refine w_aload_n 0 ((some (p0))) dX8_addRule_9 rfl rfl ?_
    refine w_get (v := va_rf (some ((p0 + 2)))) dX8_addRule_10 fl_RX8_19 ⟨g1.1, Or.inl g1.2⟩ (aFv_k rfl) ?_
    refine w_aload_n 0 ((some (p0))) dX8_addRule_13 rfl rfl ?_
    refine w_get dX8_addRule_14 fl_RX8_15 ⟨g1.1, Or.inl g1.2⟩ (aFv_i rfl) ?_
    refine w_iload_n 1 dX8_addRule_17 rfl rfl ?_
    replace h := e_grd h; obtain ⟨g3, h⟩ := h
    replace h := e_grd h; obtain ⟨b4, h⟩ := h
    refine w_iastore dX8_addRule_18 ⟨g3.1, Or.inl g3.2⟩ b4 ?_
    refine w_aload_n 0 ((some (p0))) dX8_addRule_19 rfl rfl ?_
    refine w_get (v := va_rf (some ((p0 + 3)))) dX8_addRule_20 fl_RX8_22 ⟨g1.1, Or.inl g1.2⟩ (aFv_k rfl) ?_
    refine w_aload_n 0 ((some (p0))) dX8_addRule_23 rfl rfl ?_
    refine w_get dX8_addRule_24 fl_RX8_15 ⟨g1.1, Or.inl g1.2⟩ (aFv_i rfl) ?_
    refine w_iconst (v := 0) dX8_addRule_27 (by decide) ?_
    replace h := e_grd h; obtain ⟨g5, h⟩ := h
    replace h := e_grd h; obtain ⟨b6, h⟩ := h
    refine w_iastore dX8_addRule_28 ⟨g5.1, Or.inl g5.2⟩ b6 ?_
    refine w_aload_n 0 ((some (p0))) dX8_addRule_29 rfl rfl ?_
    refine w_dup dX8_addRule_30 (aRf_cat _) ?_
    refine w_get dX8_addRule_31 fl_RX8_15 ⟨g1.1, Or.inl g1.2⟩ (aFv_i rfl) ?_
    refine w_iconst (v := 1) dX8_addRule_34 (by decide) ?_
    refine w_iadd dX8_addRule_35 ?_
    refine w_putI dX8_addRule_36 fl_RX8_15 (Or.inl rfl) rfl ⟨g1.1, Or.inl g1.2⟩ ?_
    refine w_sub [] rfl ?_
    exact l_X8_addRule_39 _ _ h
theorem dX8_addTest_0 : decode cX8_addTest 0 = .ok (.aload_n 0, 1) := by decide +kernel
theorem dX8_addTest_1 : decode cX8_addTest 1 = .ok (.getfield 15, 3) := by decide +kernel
theorem dX8_addTest_4 : decode cX8_addTest 4 = .ok (.iconst 1, 1) := by decide +kernel
theorem dX8_addTest_5 : decode cX8_addTest 5 = .ok (.isub, 1) := by decide +kernel
theorem dX8_addTest_6 : decode cX8_addTest 6 = .ok (.istore 4, 2) := by decide +kernel
theorem dX8_addTest_8 : decode cX8_addTest 8 = .ok (.iload 4, 2) := by decide +kernel
theorem dX8_addTest_10 : decode cX8_addTest 10 = .ok (.ifCond .lt 14, 3) := by decide +kernel
theorem dX8_addTest_13 : decode cX8_addTest 13 = .ok (.aload_n 0, 1) := by decide +kernel
theorem dX8_addTest_14 : decode cX8_addTest 14 = .ok (.getfield 22, 3) := by decide +kernel
theorem dX8_addTest_17 : decode cX8_addTest 17 = .ok (.iload 4, 2) := by decide +kernel
theorem dX8_addTest_19 : decode cX8_addTest 19 = .ok (.iaload, 1) := by decide +kernel
theorem dX8_addTest_20 : decode cX8_addTest 20 = .ok (.iconst 4, 1) := by decide +kernel
theorem dX8_addTest_21 : decode cX8_addTest 21 = .ok (.if_icmp .lt 4, 3) := by decide +kernel
theorem dX8_addTest_24 : decode cX8_addTest 24 = .ok (.return_, 1) := by decide +kernel
theorem dX8_addTest_25 : decode cX8_addTest 25 = .ok (.iload 4, 2) := by decide +kernel
theorem dX8_addTest_27 : decode cX8_addTest 27 = .ok (.iconst 4, 1) := by decide +kernel
theorem dX8_addTest_28 : decode cX8_addTest 28 = .ok (.imul, 1) := by decide +kernel
theorem dX8_addTest_29 : decode cX8_addTest 29 = .ok (.aload_n 0, 1) := by decide +kernel
theorem dX8_addTest_30 : decode cX8_addTest 30 = .ok (.getfield 22, 3) := by decide +kernel
theorem dX8_addTest_33 : decode cX8_addTest 33 = .ok (.iload 4, 2) := by decide +kernel
theorem dX8_addTest_35 : decode cX8_addTest 35 = .ok (.iaload, 1) := by decide +kernel
theorem dX8_addTest_36 : decode cX8_addTest 36 = .ok (.iadd, 1) := by decide +kernel
theorem dX8_addTest_37 : decode cX8_addTest 37 = .ok (.istore 5, 2) := by decide +kernel
theorem dX8_addTest_39 : decode cX8_addTest 39 = .ok (.aload_n 0, 1) := by decide +kernel
theorem dX8_addTest_40 : decode cX8_addTest 40 = .ok (.getfield 25, 3) := by decide +kernel
theorem dX8_addTest_43 : decode cX8_addTest 43 = .ok (.iload 5, 2) := by decide +kernel
theorem dX8_addTest_45 : decode cX8_addTest 45 = .ok (.iload_n 1, 1) := by decide +kernel
theorem dX8_addTest_46 : decode cX8_addTest 46 = .ok (.iastore, 1) := by decide +kernel
theorem dX8_addTest_47 : decode cX8_addTest 47 = .ok (.aload_n 0, 1) := by decide +kernel
theorem dX8_addTest_48 : decode cX8_addTest 48 = .ok (.getfield 28, 3) := by decide +kernel
theorem dX8_addTest_51 : decode cX8_addTest 51 = .ok (.iload 5, 2) := by decide +kernel
theorem dX8_addTest_53 : decode cX8_addTest 53 = .ok (.iload_n 2, 1) := by decide +kernel
theorem dX8_addTest_54 : decode cX8_addTest 54 = .ok (.iastore, 1) := by decide +kernel
theorem dX8_addTest_55 : decode cX8_addTest 55 = .ok (.aload_n 0, 1) := by decide +kernel
theorem dX8_addTest_56 : decode cX8_addTest 56 = .ok (.getfield 31, 3) := by decide +kernel
theorem dX8_addTest_59 : decode cX8_addTest 59 = .ok (.iload 5, 2) := by decide +kernel
theorem dX8_addTest_61 : decode cX8_addTest 61 = .ok (.iload_n 3, 1) := by decide +kernel
theorem dX8_addTest_62 : decode cX8_addTest 62 = .ok (.iastore, 1) := by decide +kernel
theorem dX8_addTest_63 : decode cX8_addTest 63 = .ok (.aload_n 0, 1) := by decide +kernel
theorem dX8_addTest_64 : decode cX8_addTest 64 = .ok (.getfield 22, 3) := by decide +kernel
theorem dX8_addTest_67 : decode cX8_addTest 67 = .ok (.iload 4, 2) := by decide +kernel
theorem dX8_addTest_69 : decode cX8_addTest 69 = .ok (.dup2, 1) := by decide +kernel
theorem dX8_addTest_70 : decode cX8_addTest 70 = .ok (.iaload, 1) := by decide +kernel
theorem dX8_addTest_71 : decode cX8_addTest 71 = .ok (.iconst 1, 1) := by decide +kernel
theorem dX8_addTest_72 : decode cX8_addTest 72 = .ok (.iadd, 1) := by decide +kernel
theorem dX8_addTest_73 : decode cX8_addTest 73 = .ok (.iastore, 1) := by decide +kernel
theorem dX8_addTest_74 : decode cX8_addTest 74 = .ok (.return_, 1) := by decide +kernel
theorem kd_X8_addTest : aKd m_X8_addTest 3 := ⟨wd_29_9, wd_2_21, ⟨by decide +kernel, by decide +kernel, by decide +kernel⟩⟩
set_option maxRecDepth 100000 in
set_option maxHeartbeats 4000000 in
theorem l_X8_addTest_24   (σ : aSt) (o : Unit × aSt) (h : f_X8_addTest_24   σ = some o) : AW true m_X8_addTest 24 [] [] σ 0 0 none o.2 := by
  unfold f_X8_addTest_24 at h
  obtain rfl := Option.some.inj h
  exact w_vreturn dX8_addTest_24 rfl (Nat.le_of_ble_eq_true rfl) (Nat.le_of_ble_eq_true rfl)
set_option maxRecDepth 100000 in
set_option maxHeartbeats 4000000 in
theorem l_X8_addTest_63  (x0 : Nat) (x4 : Int32) (σ : aSt) (o : Unit × aSt) (h : f_X8_addTest_63  x0 x4 σ = some o) : AW true m_X8_addTest 63 [(0, va_rf (some (x0))), (4, Value.int (x4))] [] σ 0 0 none o.2 := by
  unfold f_X8_addTest_63 at h
  refine w_aload_n 0 ((some (x0))) dX8_addTest_63 rfl rfl ?_
  replace h := e_grd h; obtain ⟨g13, h⟩ := h
  refine w_get (v := va_rf (some ((x0 + 3)))) dX8_addTest_64 fl_RX8_22 ⟨g13.1, Or.inl g13.2⟩ (aFv_k rfl) ?_
  refine w_iload 1 dX8_addTest_67 rfl ?_
  refine w_dup2 dX8_addTest_69 rfl (aRf_cat _) ?_
  replace h := e_grd h; obtain ⟨g14, h⟩ := h
  replace h := e_grd h; obtain ⟨b15, h⟩ := h
  refine w_iaload dX8_addTest_70 ⟨g14.1, Or.inl g14.2⟩ b15 ?_
  refine w_iconst (v := 1) dX8_addTest_71 (by decide) ?_
  refine w_iadd dX8_addTest_72 ?_
  replace h := e_grd h; obtain ⟨b16, h⟩ := h
  refine w_iastore dX8_addTest_73 ⟨g14.1, Or.inl g14.2⟩ b16 ?_
  obtain rfl := Option.some.inj h
  exact w_vreturn dX8_addTest_74 rfl (Nat.le_of_ble_eq_true rfl) (Nat.le_of_ble_eq_true rfl)
set_option maxRecDepth 100000 in
set_option maxHeartbeats 4000000 in
theorem c_X8_addTest (p0 : Nat) (p1 : Int32) (p2 : Int32) (p3 : Int32) (σ : aSt) (o : Unit × aSt) (h : f_X8_addTest p0 p1 p2 p3 σ = some o) : AM true m_X8_addTest [va_rf (some (p0)), .int (p1), .int (p2), .int (p3)] σ none o.2 := by
  refine AM_of2 (lv := [(0, va_rf (some (p0))), (1, Value.int (p1)), (2, Value.int (p2)), (3, Value.int (p3))]) (by decide +kernel) rfl (Nat.le_of_ble_eq_true rfl) ?_
  unfold f_X8_addTest at h
  refine w_aload_n 0 ((some (p0))) dX8_addTest_0 rfl rfl ?_
  replace h := e_grd h; obtain ⟨g1, h⟩ := h
  refine w_get dX8_addTest_1 fl_RX8_15 ⟨g1.1, Or.inl g1.2⟩ (aFv_i rfl) ?_
  refine w_iconst (v := 1) dX8_addTest_4 (by decide) ?_
  refine w_isub dX8_addTest_5 ?_
  refine w_istore dX8_addTest_6 (by decide) rfl ?_
  refine w_iload 0 dX8_addTest_8 rfl ?_
  refine w_if_lt 24 dX8_addTest_10 (by decide) (fun c2 => ?_) (fun c2 => ?_)
  · replace h := e_t c2 h
    refine w_sub [] rfl ?_
    exact l_X8_addTest_24 _ _ h
  · replace h := e_f c2 h
    refine w_aload_n 1 ((some (p0))) dX8_addTest_13 rfl rfl ?_
    refine w_get (v := va_rf (some ((p0 + 3)))) dX8_addTest_14 fl_RX8_22 ⟨g1.1, Or.inl g1.2⟩ (aFv_k rfl) ?_
    refine w_iload 0 dX8_addTest_17 rfl ?_
    replace h := e_grd h; obtain ⟨g3, h⟩ := h
    replace h := e_grd h; obtain ⟨b4, h⟩ := h
    refine w_iaload dX8_addTest_19 ⟨g3.1, Or.inl g3.2⟩ b4 ?_
    refine w_iconst (v := 4) dX8_addTest_20 (by decide) ?_
    refine w_icmp_lt 25 dX8_addTest_21 (by decide) (fun c5 => ?_) (fun c5 => ?_)
    · replace h := e_t c5 h
      refine w_iload 0 dX8_addTest_25 rfl ?_
      refine w_iconst (v := 4) dX8_addTest_27 (by decide) ?_
      refine w_imul dX8_addTest_28 ?_
      refine w_aload_n 1 ((some (p0))) dX8_addTest_29 rfl rfl ?_
      refine w_get (v := va_rf (some ((p0 + 3)))) dX8_addTest_30 fl_RX8_22 ⟨g1.1, Or.inl g1.2⟩ (aFv_k rfl) ?_
      refine w_iload 0 dX8_addTest_33 rfl ?_
      replace h := e_grd h; obtain ⟨b6, h⟩ := h
      refine w_iaload dX8_addTest_35 ⟨g3.1, Or.inl g3.2⟩ b6 ?_
      refine w_iadd dX8_addTest_36 ?_
      refine w_istore dX8_addTest_37 (by decide) rfl ?_
      refine w_aload_n 2 ((some (p0))) dX8_addTest_39 rfl rfl ?_
      refine w_get (v := va_rf (some ((p0 + 4)))) dX8_addTest_40 fl_RX8_25 ⟨g1.1, Or.inl g1.2⟩ (aFv_k rfl) ?_
      refine w_iload 0 dX8_addTest_43 rfl ?_
      refine w_iload_n 3 dX8_addTest_45 rfl rfl ?_
      replace h := e_grd h; obtain ⟨g7, h⟩ := h
      replace h := e_grd h; obtain ⟨b8, h⟩ := h
      refine w_iastore dX8_addTest_46 ⟨g7.1, Or.inl g7.2⟩ b8 ?_
      refine w_aload_n 2 ((some (p0))) dX8_addTest_47 rfl rfl ?_
      refine w_get (v := va_rf (some ((p0 + 5)))) dX8_addTest_48 fl_RX8_28 ⟨g1.1, Or.inl g1.2⟩ (aFv_k rfl) ?_
      refine w_iload 0 dX8_addTest_51 rfl ?_
      refine w_iload_n 4 dX8_addTest_53 rfl rfl ?_
      replace h := e_grd h; obtain ⟨g9, h⟩ := h
      replace h := e_grd h; obtain ⟨b10, h⟩ := h
      refine w_iastore dX8_addTest_54 ⟨g9.1, Or.inl g9.2⟩ b10 ?_
      refine w_aload_n 2 ((some (p0))) dX8_addTest_55 rfl rfl ?_
      refine w_get (v := va_rf (some ((p0 + 6)))) dX8_addTest_56 fl_RX8_31 ⟨g1.1, Or.inl g1.2⟩ (aFv_k rfl) ?_
      refine w_iload 0 dX8_addTest_59 rfl ?_
      refine w_iload_n 5 dX8_addTest_61 rfl rfl ?_
      replace h := e_grd h; obtain ⟨g11, h⟩ := h
      replace h := e_grd h; obtain ⟨b12, h⟩ := h
      refine w_iastore dX8_addTest_62 ⟨g11.1, Or.inl g11.2⟩ b12 ?_
      refine w_sub [2, 1] rfl ?_
      exact l_X8_addTest_63 _ _ _ _ h
    · replace h := e_f c5 h
      refine w_sub [] rfl ?_
      exact l_X8_addTest_24 _ _ h
theorem dX6_readTest_0 : decode cX6_readTest 0 = .ok (.aload_n 0, 1) := by decide +kernel
theorem dX6_readTest_1 : decode cX6_readTest 1 = .ok (.getfield 27, 3) := by decide +kernel
theorem dX6_readTest_4 : decode cX6_readTest 4 = .ok (.iconst 1, 1) := by decide +kernel
theorem dX6_readTest_5 : decode cX6_readTest 5 = .ok (.if_icmp .ne 17, 3) := by decide +kernel
theorem dX6_readTest_8 : decode cX6_readTest 8 = .ok (.aload_n 0, 1) := by decide +kernel
theorem dX6_readTest_9 : decode cX6_readTest 9 = .ok (.getfield 30, 3) := by decide +kernel
theorem dX6_readTest_12 : decode cX6_readTest 12 = .ok (.bipush 7, 2) := by decide +kernel
theorem dX6_readTest_14 : decode cX6_readTest 14 = .ok (.bipush 16, 2) := by decide +kernel
theorem dX6_readTest_16 : decode cX6_readTest 16 = .ok (.invokestatic 60, 3) := by decide +kernel
theorem dX6_readTest_19 : decode cX6_readTest 19 = .ok (.ifCond .ne 9, 3) := by decide +kernel
theorem dX6_readTest_22 : decode cX6_readTest 22 = .ok (.aload_n 0, 1) := by decide +kernel
theorem dX6_readTest_23 : decode cX6_readTest 23 = .ok (.iconst 1, 1) := by decide +kernel
theorem dX6_readTest_24 : decode cX6_readTest 24 = .ok (.invokevirtual 74, 3) := by decide +kernel
theorem dX6_readTest_27 : decode cX6_readTest 27 = .ok (.ireturn, 1) := by decide +kernel
theorem dX6_readTest_28 : decode cX6_readTest 28 = .ok (.aload_n 0, 1) := by decide +kernel
theorem dX6_readTest_29 : decode cX6_readTest 29 = .ok (.getfield 30, 3) := by decide +kernel
theorem dX6_readTest_32 : decode cX6_readTest 32 = .ok (.bipush 7, 2) := by decide +kernel
theorem dX6_readTest_34 : decode cX6_readTest 34 = .ok (.isub, 1) := by decide +kernel
theorem dX6_readTest_35 : decode cX6_readTest 35 = .ok (.istore_n 1, 1) := by decide +kernel
theorem dX6_readTest_36 : decode cX6_readTest 36 = .ok (.aload_n 0, 1) := by decide +kernel
theorem dX6_readTest_37 : decode cX6_readTest 37 = .ok (.invokevirtual 77, 3) := by decide +kernel
theorem dX6_readTest_40 : decode cX6_readTest 40 = .ok (.aload_n 0, 1) := by decide +kernel
theorem dX6_readTest_41 : decode cX6_readTest 41 = .ok (.getfield 27, 3) := by decide +kernel
theorem dX6_readTest_44 : decode cX6_readTest 44 = .ok (.iconst 3, 1) := by decide +kernel
theorem dX6_readTest_45 : decode cX6_readTest 45 = .ok (.if_icmp .ne 12, 3) := by decide +kernel
theorem dX6_readTest_48 : decode cX6_readTest 48 = .ok (.aload_n 0, 1) := by decide +kernel
theorem dX6_readTest_49 : decode cX6_readTest 49 = .ok (.getfield 30, 3) := by decide +kernel
theorem dX6_readTest_52 : decode cX6_readTest 52 = .ok (.bipush 59, 2) := by decide +kernel
theorem dX6_readTest_54 : decode cX6_readTest 54 = .ok (.if_icmp .ne 9, 3) := by decide +kernel
theorem dX6_readTest_57 : decode cX6_readTest 57 = .ok (.aload_n 0, 1) := by decide +kernel
theorem dX6_readTest_58 : decode cX6_readTest 58 = .ok (.iconst 1, 1) := by decide +kernel
theorem dX6_readTest_59 : decode cX6_readTest 59 = .ok (.invokevirtual 74, 3) := by decide +kernel
theorem dX6_readTest_62 : decode cX6_readTest 62 = .ok (.ireturn, 1) := by decide +kernel
theorem dX6_readTest_63 : decode cX6_readTest 63 = .ok (.aload_n 0, 1) := by decide +kernel
theorem dX6_readTest_64 : decode cX6_readTest 64 = .ok (.getfield 30, 3) := by decide +kernel
theorem dX6_readTest_67 : decode cX6_readTest 67 = .ok (.istore_n 2, 1) := by decide +kernel
theorem dX6_readTest_68 : decode cX6_readTest 68 = .ok (.aload_n 0, 1) := by decide +kernel
theorem dX6_readTest_69 : decode cX6_readTest 69 = .ok (.invokevirtual 77, 3) := by decide +kernel
theorem dX6_readTest_72 : decode cX6_readTest 72 = .ok (.aload_n 0, 1) := by decide +kernel
theorem dX6_readTest_73 : decode cX6_readTest 73 = .ok (.iconst 0, 1) := by decide +kernel
theorem dX6_readTest_74 : decode cX6_readTest 74 = .ok (.ldc 100, 2) := by decide +kernel
theorem dX6_readTest_76 : decode cX6_readTest 76 = .ok (.invokevirtual 81, 3) := by decide +kernel
theorem dX6_readTest_79 : decode cX6_readTest 79 = .ok (.ifCond .ne 5, 3) := by decide +kernel
theorem dX6_readTest_82 : decode cX6_readTest 82 = .ok (.iconst 0, 1) := by decide +kernel
theorem dX6_readTest_83 : decode cX6_readTest 83 = .ok (.ireturn, 1) := by decide +kernel
theorem dX6_readTest_84 : decode cX6_readTest 84 = .ok (.aload_n 0, 1) := by decide +kernel
theorem dX6_readTest_85 : decode cX6_readTest 85 = .ok (.getfield 18, 3) := by decide +kernel
theorem dX6_readTest_88 : decode cX6_readTest 88 = .ok (.iload_n 1, 1) := by decide +kernel
theorem dX6_readTest_89 : decode cX6_readTest 89 = .ok (.iload_n 2, 1) := by decide +kernel
theorem dX6_readTest_90 : decode cX6_readTest 90 = .ok (.aload_n 0, 1) := by decide +kernel
theorem dX6_readTest_91 : decode cX6_readTest 91 = .ok (.getfield 30, 3) := by decide +kernel
theorem dX6_readTest_94 : decode cX6_readTest 94 = .ok (.invokevirtual 101, 3) := by decide +kernel
theorem dX6_readTest_97 : decode cX6_readTest 97 = .ok (.aload_n 0, 1) := by decide +kernel
theorem dX6_readTest_98 : decode cX6_readTest 98 = .ok (.invokevirtual 77, 3) := by decide +kernel
theorem dX6_readTest_101 : decode cX6_readTest 101 = .ok (.iconst 1, 1) := by decide +kernel
theorem dX6_readTest_102 : decode cX6_readTest 102 = .ok (.ireturn, 1) := by decide +kernel
theorem kd_X6_readTest : aKd m_X6_readTest 0 := ⟨wd_29_4, wd_2_1, ⟨by decide +kernel, by decide +kernel, by decide +kernel⟩⟩
set_option maxRecDepth 100000 in
set_option maxHeartbeats 4000000 in
theorem l_X6_readTest_22   (σ : aSt) (o : Int32 × aSt) (h : f_X6_readTest_22   σ = some o) : AW true m_X6_readTest 22 [(0, va_rf (some (10)))] [] σ 0 0 (some (.int o.1)) o.2 := by
  unfold f_X6_readTest_22 at h
  refine w_aload_n 0 ((some (10))) dX6_readTest_22 rfl rfl ?_
  refine w_iconst (v := 1) dX6_readTest_23 (by decide) ?_
  replace h := e_bind h; obtain ⟨q24, e25, h⟩ := h
  refine w_callV1 (M2 := m_X6_fail) (av := [.int (1)]) (ci := 6) (c_X6_fail _ _ _ e25) dX6_readTest_24 kd_X6_fail wd_28_3 wd_28_4 wd_28_5 rfl rfl ⟨rfl, Or.inr ⟨rfl, by decide⟩⟩ rfl ⟨Nat.le_of_ble_eq_true rfl, Nat.le_of_ble_eq_true rfl, Nat.le_of_ble_eq_true rfl, Nat.le_of_ble_eq_true rfl⟩ (Nat.le_of_ble_eq_true rfl) ?_
  replace h := e_grd h; obtain ⟨g26, h⟩ := h
  obtain rfl := Option.some.inj h
  exact w_zreturn dX6_readTest_27 rfl (e_nz g26) (Nat.le_of_ble_eq_true rfl) (Nat.le_of_ble_eq_true rfl)
set_option maxRecDepth 100000 in
set_option maxHeartbeats 4000000 in
theorem l_X6_readTest_57   (σ : aSt) (o : Int32 × aSt) (h : f_X6_readTest_57   σ = some o) : AW true m_X6_readTest 57 [(0, va_rf (some (10)))] [] σ 0 0 (some (.int o.1)) o.2 := by
  unfold f_X6_readTest_57 at h
  refine w_aload_n 0 ((some (10))) dX6_readTest_57 rfl rfl ?_
  refine w_iconst (v := 1) dX6_readTest_58 (by decide) ?_
  replace h := e_bind h; obtain ⟨q21, e22, h⟩ := h
  refine w_callV1 (M2 := m_X6_fail) (av := [.int (1)]) (ci := 6) (c_X6_fail _ _ _ e22) dX6_readTest_59 kd_X6_fail wd_28_3 wd_28_4 wd_28_5 rfl rfl ⟨rfl, Or.inr ⟨rfl, by decide⟩⟩ rfl ⟨Nat.le_of_ble_eq_true rfl, Nat.le_of_ble_eq_true rfl, Nat.le_of_ble_eq_true rfl, Nat.le_of_ble_eq_true rfl⟩ (Nat.le_of_ble_eq_true rfl) ?_
  replace h := e_grd h; obtain ⟨g23, h⟩ := h
  obtain rfl := Option.some.inj h
  exact w_zreturn dX6_readTest_62 rfl (e_nz g23) (Nat.le_of_ble_eq_true rfl) (Nat.le_of_ble_eq_true rfl)
set_option maxRecDepth 100000 in
set_option maxHeartbeats 4000000 in
theorem c_X6_readTest  (σ : aSt) (o : Int32 × aSt) (h : f_X6_readTest  σ = some o) : AM true m_X6_readTest [va_rf (some (10))] σ (some (.int o.1)) o.2 := by
  refine AM_of2 (lv := [(0, va_rf (some (10)))]) (by decide +kernel) rfl (Nat.le_of_ble_eq_true rfl) ?_
  unfold f_X6_readTest at h
  refine w_aload_n 0 ((some (10))) dX6_readTest_0 rfl rfl ?_
  refine w_get dX6_readTest_1 fl_RX6_27 ⟨rfl, Or.inr ⟨rfl, by decide⟩⟩ (aFv_i rfl) ?_
  refine w_iconst (v := 1) dX6_readTest_4 (by decide) ?_
  refine w_icmp_ne 22 dX6_readTest_5 (by decide) (fun c1 => ?_) (fun c1 => ?_)
  · replace h := e_f c1 h
    exact l_X6_readTest_22 _ _ h
  · replace h := e_t c1 h
    refine w_aload_n 0 ((some (10))) dX6_readTest_8 rfl rfl ?_
    refine w_get dX6_readTest_9 fl_RX6_30 ⟨rfl, Or.inr ⟨rfl, by decide⟩⟩ (aFv_i rfl) ?_
    refine w_bipush (v := 7) dX6_readTest_12 (by decide) ?_
    refine w_bipush (v := 16) dX6_readTest_14 (by decide) ?_
    replace h := e_bind h; obtain ⟨q2, e3, h⟩ := h
    refine w_callSN1 (M2 := m_X11_within) (av := [.int (gI σ 10 6), .int (7), .int (16)]) (host := RX11) (c_X11_within _ _ _ _ _ e3) dX6_readTest_16 kd_X11_within (by decide +kernel) wd_9_23 rfl rfl ⟨Nat.le_of_ble_eq_true rfl, Nat.le_of_ble_eq_true rfl, Nat.le_of_ble_eq_true rfl, Nat.le_of_ble_eq_true rfl⟩ (Nat.le_of_ble_eq_true rfl) ?_
    refine w_if_ne 28 dX6_readTest_19 (by decide) (fun c4 => ?_) (fun c4 => ?_)
    · replace h := e_f c4 h
      refine w_aload_n 0 ((some (10))) dX6_readTest_28 rfl rfl ?_
      refine w_get dX6_readTest_29 fl_RX6_30 ⟨rfl, Or.inr ⟨rfl, by decide⟩⟩ (aFv_i rfl) ?_
      refine w_bipush (v := 7) dX6_readTest_32 (by decide) ?_
      refine w_isub dX6_readTest_34 ?_
      refine w_istore_n dX6_readTest_35 rfl (by decide) rfl ?_
      refine w_aload_n 1 ((some (10))) dX6_readTest_36 rfl rfl ?_
      replace h := e_bind h; obtain ⟨q5, e6, h⟩ := h
      refine w_callV0 (M2 := m_X6_goOn) (av := []) (ci := 6) (c_X6_goOn  _ _ e6) dX6_readTest_37 kd_X6_goOn wd_27_19 wd_27_20 wd_27_21 rfl rfl ⟨rfl, Or.inr ⟨rfl, by decide⟩⟩ rfl ⟨Nat.le_of_ble_eq_true rfl, Nat.le_of_ble_eq_true rfl, Nat.le_of_ble_eq_true rfl, Nat.le_of_ble_eq_true rfl⟩ (Nat.le_of_ble_eq_true rfl) ?_
      refine w_aload_n 1 ((some (10))) dX6_readTest_40 rfl rfl ?_
      refine w_get dX6_readTest_41 fl_RX6_27 ⟨rfl, Or.inr ⟨rfl, by decide⟩⟩ (aFv_i rfl) ?_
      refine w_iconst (v := 3) dX6_readTest_44 (by decide) ?_
      refine w_icmp_ne 57 dX6_readTest_45 (by decide) (fun c7 => ?_) (fun c7 => ?_)
      · replace h := e_f c7 h
        refine w_sub [1] rfl ?_
        exact l_X6_readTest_57 _ _ h
      · replace h := e_t c7 h
        refine w_aload_n 1 ((some (10))) dX6_readTest_48 rfl rfl ?_
        refine w_get dX6_readTest_49 fl_RX6_30 ⟨rfl, Or.inr ⟨rfl, by decide⟩⟩ (aFv_i rfl) ?_
        refine w_bipush (v := 59) dX6_readTest_52 (by decide) ?_
        refine w_icmp_ne 63 dX6_readTest_54 (by decide) (fun c8 => ?_) (fun c8 => ?_)
        · replace h := e_f c8 h
          refine w_aload_n 1 ((some (10))) dX6_readTest_63 rfl rfl ?_
          refine w_get dX6_readTest_64 fl_RX6_30 ⟨rfl, Or.inr ⟨rfl, by decide⟩⟩ (aFv_i rfl) ?_
          refine w_istore_n dX6_readTest_67 rfl (by decide) rfl ?_
          refine w_aload_n 2 ((some (10))) dX6_readTest_68 rfl rfl ?_
          replace h := e_bind h; obtain ⟨q9, e10, h⟩ := h
          refine w_callV0 (M2 := m_X6_goOn) (av := []) (ci := 6) (c_X6_goOn  _ _ e10) dX6_readTest_69 kd_X6_goOn wd_27_19 wd_27_20 wd_27_21 rfl rfl ⟨rfl, Or.inr ⟨rfl, by decide⟩⟩ rfl ⟨Nat.le_of_ble_eq_true rfl, Nat.le_of_ble_eq_true rfl, Nat.le_of_ble_eq_true rfl, Nat.le_of_ble_eq_true rfl⟩ (Nat.le_of_ble_eq_true rfl) ?_
          refine w_aload_n 2 ((some (10))) dX6_readTest_72 rfl rfl ?_
          refine w_iconst (v := 0) dX6_readTest_73 (by decide) ?_
          refine w_ldc (v := 999999) dX6_readTest_74 wd_29_5 ?_
          replace h := e_bind h; obtain ⟨q11, e12, h⟩ := h
          refine w_callV1 (M2 := m_X6_hasNumber) (av := [.int (0), .int (999999)]) (ci := 6) (c_X6_hasNumber _ _ _ _ e12) dX6_readTest_76 kd_X6_hasNumber wd_27_23 wd_28_0 wd_28_1 rfl rfl ⟨rfl, Or.inr ⟨rfl, by decide⟩⟩ rfl ⟨Nat.le_of_ble_eq_true rfl, Nat.le_of_ble_eq_true rfl, Nat.le_of_ble_eq_true rfl, Nat.le_of_ble_eq_true rfl⟩ (Nat.le_of_ble_eq_true rfl) ?_
          refine w_if_ne 84 dX6_readTest_79 (by decide) (fun c13 => ?_) (fun c13 => ?_)
          · replace h := e_f c13 h
            refine w_aload_n 2 ((some (10))) dX6_readTest_84 rfl rfl ?_
            refine w_get dX6_readTest_85 fl_RX6_18 ⟨rfl, Or.inr ⟨rfl, by decide⟩⟩ (aFv_q (Or.inl rfl)) ?_
            refine w_iload_n 1 dX6_readTest_88 rfl rfl ?_
            refine w_iload_n 0 dX6_readTest_89 rfl rfl ?_
            refine w_aload_n 2 ((some (10))) dX6_readTest_90 rfl rfl ?_
            refine w_get dX6_readTest_91 fl_RX6_30 ⟨rfl, Or.inr ⟨rfl, by decide⟩⟩ (aFv_i rfl) ?_
            replace h := e_oS h; obtain ⟨a14, r15, h⟩ := h
            rw [r15]
            replace h := e_grd h; obtain ⟨g18, h⟩ := h
            replace h := e_bind h; obtain ⟨q16, e17, h⟩ := h
            refine w_callV0 (M2 := m_X8_addTest) (av := [.int ((gI q2.2 10 6) - 7), .int (gI q5.2 10 6), .int (gI q11.2 10 6)]) (ci := 8) (c_X8_addTest _ _ _ _ _ _ e17) dX6_readTest_94 kd_X8_addTest wd_29_6 wd_29_7 wd_29_8 rfl rfl ⟨g18.1, Or.inl g18.2⟩ rfl ⟨Nat.le_of_ble_eq_true rfl, Nat.le_of_ble_eq_true rfl, Nat.le_of_ble_eq_true rfl, Nat.le_of_ble_eq_true rfl⟩ (Nat.le_of_ble_eq_true rfl) ?_
            refine w_aload_n 2 ((some (10))) dX6_readTest_97 rfl rfl ?_
            replace h := e_bind h; obtain ⟨q19, e20, h⟩ := h
            refine w_callV0 (M2 := m_X6_goOn) (av := []) (ci := 6) (c_X6_goOn  _ _ e20) dX6_readTest_98 kd_X6_goOn wd_27_19 wd_27_20 wd_27_21 rfl rfl ⟨rfl, Or.inr ⟨rfl, by decide⟩⟩ rfl ⟨Nat.le_of_ble_eq_true rfl, Nat.le_of_ble_eq_true rfl, Nat.le_of_ble_eq_true rfl, Nat.le_of_ble_eq_true rfl⟩ (Nat.le_of_ble_eq_true rfl) ?_
            refine w_iconst (v := 1) dX6_readTest_101 (by decide) ?_
            obtain rfl := Option.some.inj h
            exact w_zreturn dX6_readTest_102 rfl rfl (Nat.le_of_ble_eq_true rfl) (Nat.le_of_ble_eq_true rfl)
          · replace h := e_t c13 h
            refine w_iconst (v := 0) dX6_readTest_82 (by decide) ?_
            obtain rfl := Option.some.inj h
            exact w_zreturn dX6_readTest_83 rfl rfl (Nat.le_of_ble_eq_true rfl) (Nat.le_of_ble_eq_true rfl)
        · replace h := e_t c8 h
          refine w_sub [1] rfl ?_
          exact l_X6_readTest_57 _ _ h
    · replace h := e_t c4 h
      exact l_X6_readTest_22 _ _ h
theorem dX6_readRule_0 : decode cX6_readRule 0 = .ok (.aload_n 0, 1) := by decide +kernel
theorem dX6_readRule_1 : decode cX6_readRule 1 = .ok (.getfield 18, 3) := by decide +kernel
theorem dX6_readRule_4 : decode cX6_readRule 4 = .ok (.getfield 91, 3) := by decide +kernel
theorem dX6_readRule_7 : decode cX6_readRule 7 = .ok (.bipush 12, 2) := by decide +kernel
theorem dX6_readRule_9 : decode cX6_readRule 9 = .ok (.if_icmp .lt 9, 3) := by decide +kernel
theorem dX6_readRule_12 : decode cX6_readRule 12 = .ok (.aload_n 0, 1) := by decide +kernel
theorem dX6_readRule_13 : decode cX6_readRule 13 = .ok (.iconst 3, 1) := by decide +kernel
theorem dX6_readRule_14 : decode cX6_readRule 14 = .ok (.invokevirtual 74, 3) := by decide +kernel
theorem dX6_readRule_17 : decode cX6_readRule 17 = .ok (.ireturn, 1) := by decide +kernel
theorem dX6_readRule_18 : decode cX6_readRule 18 = .ok (.aload_n 0, 1) := by decide +kernel
theorem dX6_readRule_19 : decode cX6_readRule 19 = .ok (.invokevirtual 77, 3) := by decide +kernel
theorem dX6_readRule_22 : decode cX6_readRule 22 = .ok (.aload_n 0, 1) := by decide +kernel
theorem dX6_readRule_23 : decode cX6_readRule 23 = .ok (.iconst 1, 1) := by decide +kernel
theorem dX6_readRule_24 : decode cX6_readRule 24 = .ok (.sipush 1000, 3) := by decide +kernel
theorem dX6_readRule_27 : decode cX6_readRule 27 = .ok (.invokevirtual 81, 3) := by decide +kernel
theorem dX6_readRule_30 : decode cX6_readRule 30 = .ok (.ifCond .ne 5, 3) := by decide +kernel
theorem dX6_readRule_33 : decode cX6_readRule 33 = .ok (.iconst 0, 1) := by decide +kernel
theorem dX6_readRule_34 : decode cX6_readRule 34 = .ok (.ireturn, 1) := by decide +kernel
theorem dX6_readRule_35 : decode cX6_readRule 35 = .ok (.aload_n 0, 1) := by decide +kernel
theorem dX6_readRule_36 : decode cX6_readRule 36 = .ok (.getfield 18, 3) := by decide +kernel
theorem dX6_readRule_39 : decode cX6_readRule 39 = .ok (.aload_n 0, 1) := by decide +kernel
theorem dX6_readRule_40 : decode cX6_readRule 40 = .ok (.getfield 30, 3) := by decide +kernel
theorem dX6_readRule_43 : decode cX6_readRule 43 = .ok (.invokevirtual 94, 3) := by decide +kernel
theorem dX6_readRule_46 : decode cX6_readRule 46 = .ok (.aload_n 0, 1) := by decide +kernel
theorem dX6_readRule_47 : decode cX6_readRule 47 = .ok (.invokevirtual 77, 3) := by decide +kernel
theorem dX6_readRule_50 : decode cX6_readRule 50 = .ok (.aload_n 0, 1) := by decide +kernel
theorem dX6_readRule_51 : decode cX6_readRule 51 = .ok (.iconst 5, 1) := by decide +kernel
theorem dX6_readRule_52 : decode cX6_readRule 52 = .ok (.invokevirtual 68, 3) := by decide +kernel
theorem dX6_readRule_55 : decode cX6_readRule 55 = .ok (.ifCond .ne 9, 3) := by decide +kernel
theorem dX6_readRule_58 : decode cX6_readRule 58 = .ok (.aload_n 0, 1) := by decide +kernel
theorem dX6_readRule_59 : decode cX6_readRule 59 = .ok (.iconst 1, 1) := by decide +kernel
theorem dX6_readRule_60 : decode cX6_readRule 60 = .ok (.invokevirtual 74, 3) := by decide +kernel
theorem dX6_readRule_63 : decode cX6_readRule 63 = .ok (.ireturn, 1) := by decide +kernel
theorem dX6_readRule_64 : decode cX6_readRule 64 = .ok (.iconst 0, 1) := by decide +kernel
theorem dX6_readRule_65 : decode cX6_readRule 65 = .ok (.istore_n 1, 1) := by decide +kernel
theorem dX6_readRule_66 : decode cX6_readRule 66 = .ok (.iload_n 1, 1) := by decide +kernel
theorem dX6_readRule_67 : decode cX6_readRule 67 = .ok (.iconst 4, 1) := by decide +kernel
theorem dX6_readRule_68 : decode cX6_readRule 68 = .ok (.if_icmp .ge 36, 3) := by decide +kernel
theorem dX6_readRule_71 : decode cX6_readRule 71 = .ok (.aload_n 0, 1) := by decide +kernel
theorem dX6_readRule_72 : decode cX6_readRule 72 = .ok (.invokevirtual 77, 3) := by decide +kernel
theorem dX6_readRule_75 : decode cX6_readRule 75 = .ok (.aload_n 0, 1) := by decide +kernel
theorem dX6_readRule_76 : decode cX6_readRule 76 = .ok (.invokevirtual 97, 3) := by decide +kernel
theorem dX6_readRule_79 : decode cX6_readRule 79 = .ok (.ifCond .ne 5, 3) := by decide +kernel
theorem dX6_readRule_82 : decode cX6_readRule 82 = .ok (.iconst 0, 1) := by decide +kernel
theorem dX6_readRule_83 : decode cX6_readRule 83 = .ok (.ireturn, 1) := by decide +kernel
theorem dX6_readRule_84 : decode cX6_readRule 84 = .ok (.aload_n 0, 1) := by decide +kernel
theorem dX6_readRule_85 : decode cX6_readRule 85 = .ok (.bipush 6, 2) := by decide +kernel
theorem dX6_readRule_87 : decode cX6_readRule 87 = .ok (.invokevirtual 68, 3) := by decide +kernel
theorem dX6_readRule_90 : decode cX6_readRule 90 = .ok (.ifCond .ne 8, 3) := by decide +kernel
theorem dX6_readRule_93 : decode cX6_readRule 93 = .ok (.aload_n 0, 1) := by decide +kernel
theorem dX6_readRule_94 : decode cX6_readRule 94 = .ok (.invokevirtual 88, 3) := by decide +kernel
theorem dX6_readRule_97 : decode cX6_readRule 97 = .ok (.ireturn, 1) := by decide +kernel
theorem dX6_readRule_98 : decode cX6_readRule 98 = .ok (.iinc 1 1, 3) := by decide +kernel
theorem dX6_readRule_101 : decode cX6_readRule 101 = .ok (.goto (-35), 3) := by decide +kernel
theorem dX6_readRule_104 : decode cX6_readRule 104 = .ok (.aload_n 0, 1) := by decide +kernel
theorem dX6_readRule_105 : decode cX6_readRule 105 = .ok (.iconst 3, 1) := by decide +kernel
theorem dX6_readRule_106 : decode cX6_readRule 106 = .ok (.invokevirtual 74, 3) := by decide +kernel
theorem dX6_readRule_109 : decode cX6_readRule 109 = .ok (.ireturn, 1) := by decide +kernel
theorem kd_X6_readRule : aKd m_X6_readRule 0 := ⟨wd_28_19, wd_2_1, ⟨by decide +kernel, by decide +kernel, by decide +kernel⟩⟩
set_option maxRecDepth 100000 in
set_option maxHeartbeats 4000000 in
theorem l_X6_readRule_66_b (rec66 : Int32 → aSt → Option (Int32 × aSt)) (hrec66 : ∀ (x1 : Int32) (σ : aSt) (o : Int32 × aSt), rec66 x1 σ = some o → AW true m_X6_readRule 66 [(0, va_rf (some (10))), (1, Value.int (x1))] [] σ 0 0 (some (.int o.1)) o.2) (x1 : Int32) (σ : aSt) (o : Int32 × aSt) (h : f_X6_readRule_66_b rec66 x1 σ = some o) : AW true m_X6_readRule 66 [(0, va_rf (some (10))), (1, Value.int (x1))] [] σ 0 0 (some (.int o.1)) o.2 := by
  unfold f_X6_readRule_66_b at h
  refine w_iload_n 1 dX6_readRule_66 rfl rfl ?_
  refine w_iconst (v := 4) dX6_readRule_67 (by decide) ?_
  refine w_icmp_ge 104 dX6_readRule_68 (by decide) (fun c26 => ?_) (fun c26 => ?_)
  · replace h := e_t c26 h
    refine w_aload_n 0 ((some (10))) dX6_readRule_104 rfl rfl ?_
    refine w_iconst (v := 3) dX6_readRule_105 (by decide) ?_
    replace h := e_bind h; obtain ⟨q27, e28, h⟩ := h
    refine w_callV1 (M2 := m_X6_fail) (av := [.int (3)]) (ci := 6) (c_X6_fail _ _ _ e28) dX6_readRule_106 kd_X6_fail wd_28_3 wd_28_4 wd_28_5 rfl rfl ⟨rfl, Or.inr ⟨rfl, by decide⟩⟩ rfl ⟨Nat.le_of_ble_eq_true rfl, Nat.le_of_ble_eq_true rfl, Nat.le_of_ble_eq_true rfl, Nat.le_of_ble_eq_true rfl⟩ (Nat.le_of_ble_eq_true rfl) ?_
    replace h := e_grd h; obtain ⟨g29, h⟩ := h
    obtain rfl := Option.some.inj h
    exact w_zreturn dX6_readRule_109 rfl (e_nz g29) (Nat.le_of_ble_eq_true rfl) (Nat.le_of_ble_eq_true rfl)
  · replace h := e_f c26 h
    refine w_aload_n 0 ((some (10))) dX6_readRule_71 rfl rfl ?_
    replace h := e_bind h; obtain ⟨q30, e31, h⟩ := h
    refine w_callV0 (M2 := m_X6_goOn) (av := []) (ci := 6) (c_X6_goOn  _ _ e31) dX6_readRule_72 kd_X6_goOn wd_27_19 wd_27_20 wd_27_21 rfl rfl ⟨rfl, Or.inr ⟨rfl, by decide⟩⟩ rfl ⟨Nat.le_of_ble_eq_true rfl, Nat.le_of_ble_eq_true rfl, Nat.le_of_ble_eq_true rfl, Nat.le_of_ble_eq_true rfl⟩ (Nat.le_of_ble_eq_true rfl) ?_
    refine w_aload_n 0 ((some (10))) dX6_readRule_75 rfl rfl ?_
    replace h := e_bind h; obtain ⟨q32, e33, h⟩ := h
    refine w_callV1 (M2 := m_X6_readTest) (av := []) (ci := 6) (c_X6_readTest  _ _ e33) dX6_readRule_76 kd_X6_readTest wd_29_1 wd_29_2 wd_29_3 rfl rfl ⟨rfl, Or.inr ⟨rfl, by decide⟩⟩ rfl ⟨Nat.le_of_ble_eq_true rfl, Nat.le_of_ble_eq_true rfl, Nat.le_of_ble_eq_true rfl, Nat.le_of_ble_eq_true rfl⟩ (Nat.le_of_ble_eq_true rfl) ?_
    refine w_if_ne 84 dX6_readRule_79 (by decide) (fun c34 => ?_) (fun c34 => ?_)
    · replace h := e_f c34 h
      refine w_aload_n 0 ((some (10))) dX6_readRule_84 rfl rfl ?_
      refine w_bipush (v := 6) dX6_readRule_85 (by decide) ?_
      replace h := e_bind h; obtain ⟨q35, e36, h⟩ := h
      refine w_callV1 (M2 := m_X6_isWord) (av := [.int (6)]) (ci := 6) (c_X6_isWord _ _ _ e36) dX6_readRule_87 kd_X6_isWord wd_28_12 wd_28_13 wd_28_14 rfl rfl ⟨rfl, Or.inr ⟨rfl, by decide⟩⟩ rfl ⟨Nat.le_of_ble_eq_true rfl, Nat.le_of_ble_eq_true rfl, Nat.le_of_ble_eq_true rfl, Nat.le_of_ble_eq_true rfl⟩ (Nat.le_of_ble_eq_true rfl) ?_
      refine w_if_ne 98 dX6_readRule_90 (by decide) (fun c37 => ?_) (fun c37 => ?_)
      · replace h := e_f c37 h
        refine w_iinc (q := 1) (v := x1 + 1) dX6_readRule_98 rfl rfl (by decide) rfl ?_
        refine w_goto 66 dX6_readRule_101 (by decide) ?_
        refine w_sub [1, 0] rfl ?_
        exact hrec66 _ _ _ h
      · replace h := e_t c37 h
        refine w_aload_n 0 ((some (10))) dX6_readRule_93 rfl rfl ?_
        replace h := e_bind h; obtain ⟨q38, e39, h⟩ := h
        refine w_callV1 (M2 := m_X6_passEnd) (av := []) (ci := 6) (c_X6_passEnd  _ _ e39) dX6_readRule_94 kd_X6_passEnd wd_28_8 wd_28_9 wd_28_10 rfl rfl ⟨rfl, Or.inr ⟨rfl, by decide⟩⟩ rfl ⟨Nat.le_of_ble_eq_true rfl, Nat.le_of_ble_eq_true rfl, Nat.le_of_ble_eq_true rfl, Nat.le_of_ble_eq_true rfl⟩ (Nat.le_of_ble_eq_true rfl) ?_
        replace h := e_grd h; obtain ⟨g40, h⟩ := h
        obtain rfl := Option.some.inj h
        exact w_zreturn dX6_readRule_97 rfl (e_nz g40) (Nat.le_of_ble_eq_true rfl) (Nat.le_of_ble_eq_true rfl)
    · replace h := e_t c34 h
      refine w_iconst (v := 0) dX6_readRule_82 (by decide) ?_
      obtain rfl := Option.some.inj h
      exact w_zreturn dX6_readRule_83 rfl rfl (Nat.le_of_ble_eq_true rfl) (Nat.le_of_ble_eq_true rfl)
theorem l_X6_readRule_66  : ∀ (n : Nat) (x1 : Int32) (σ : aSt) (o : Int32 × aSt), f_X6_readRule_66  n x1 σ = some o → AW true m_X6_readRule 66 [(0, va_rf (some (10))), (1, Value.int (x1))] [] σ 0 0 (some (.int o.1)) o.2
  | 0 => fun x1 σ o h => by cases h
  | n + 1 => fun x1 σ o h => l_X6_readRule_66_b (f_X6_readRule_66  n) (l_X6_readRule_66  n) x1 σ o h
set_option maxRecDepth 100000 in
set_option maxHeartbeats 4000000 in
theorem c_X6_readRule  (σ : aSt) (o : Int32 × aSt) (h : f_X6_readRule  σ = some o) : AM true m_X6_readRule [va_rf (some (10))] σ (some (.int o.1)) o.2 := by
  refine AM_of2 (lv := [(0, va_rf (some (10)))]) (by decide +kernel) rfl (Nat.le_of_ble_eq_true rfl) ?_
  unfold f_X6_readRule at h
  refine w_aload_n 0 ((some (10))) dX6_readRule_0 rfl rfl ?_
  refine w_get dX6_readRule_1 fl_RX6_18 ⟨rfl, Or.inr ⟨rfl, by decide⟩⟩ (aFv_q (Or.inl rfl)) ?_
  replace h := e_oS h; obtain ⟨a1, r2, h⟩ := h
  rw [r2]
  replace h := e_grd h; obtain ⟨g3, h⟩ := h
  refine w_get dX6_readRule_4 fl_RX6_91 ⟨g3.1, Or.inl g3.2⟩ (aFv_i rfl) ?_
  refine w_bipush (v := 12) dX6_readRule_7 (by decide) ?_
  refine w_icmp_lt 18 dX6_readRule_9 (by decide) (fun c4 => ?_) (fun c4 => ?_)
  · replace h := e_t c4 h
    refine w_aload_n 0 ((some (10))) dX6_readRule_18 rfl rfl ?_
    replace h := e_bind h; obtain ⟨q5, e6, h⟩ := h
    refine w_callV0 (M2 := m_X6_goOn) (av := []) (ci := 6) (c_X6_goOn  _ _ e6) dX6_readRule_19 kd_X6_goOn wd_27_19 wd_27_20 wd_27_21 rfl rfl ⟨rfl, Or.inr ⟨rfl, by decide⟩⟩ rfl ⟨Nat.le_of_ble_eq_true rfl, Nat.le_of_ble_eq_true rfl, Nat.le_of_ble_eq_true rfl, Nat.le_of_ble_eq_true rfl⟩ (Nat.le_of_ble_eq_true rfl) ?_
    refine w_aload_n 0 ((some (10))) dX6_readRule_22 rfl rfl ?_
    refine w_iconst (v := 1) dX6_readRule_23 (by decide) ?_
    refine w_sipush (v := 1000) dX6_readRule_24 (by decide) ?_
    replace h := e_bind h; obtain ⟨q7, e8, h⟩ := h
    refine w_callV1 (M2 := m_X6_hasNumber) (av := [.int (1), .int (1000)]) (ci := 6) (c_X6_hasNumber _ _ _ _ e8) dX6_readRule_27 kd_X6_hasNumber wd_27_23 wd_28_0 wd_28_1 rfl rfl ⟨rfl, Or.inr ⟨rfl, by decide⟩⟩ rfl ⟨Nat.le_of_ble_eq_true rfl, Nat.le_of_ble_eq_true rfl, Nat.le_of_ble_eq_true rfl, Nat.le_of_ble_eq_true rfl⟩ (Nat.le_of_ble_eq_true rfl) ?_
    refine w_if_ne 35 dX6_readRule_30 (by decide) (fun c9 => ?_) (fun c9 => ?_)
    · replace h := e_f c9 h
      refine w_aload_n 0 ((some (10))) dX6_readRule_35 rfl rfl ?_
      refine w_get dX6_readRule_36 fl_RX6_18 ⟨rfl, Or.inr ⟨rfl, by decide⟩⟩ (aFv_q (Or.inl rfl)) ?_
      refine w_aload_n 0 ((some (10))) dX6_readRule_39 rfl rfl ?_
      refine w_get dX6_readRule_40 fl_RX6_30 ⟨rfl, Or.inr ⟨rfl, by decide⟩⟩ (aFv_i rfl) ?_
      replace h := e_oS h; obtain ⟨a10, r11, h⟩ := h
      rw [r11]
      replace h := e_grd h; obtain ⟨g14, h⟩ := h
      replace h := e_bind h; obtain ⟨q12, e13, h⟩ := h
      refine w_callV0 (M2 := m_X8_addRule) (av := [.int (gI q7.2 10 6)]) (ci := 8) (c_X8_addRule _ _ _ _ e13) dX6_readRule_43 kd_X8_addRule wd_28_21 wd_28_22 wd_28_23 rfl rfl ⟨g14.1, Or.inl g14.2⟩ rfl ⟨Nat.le_of_ble_eq_true rfl, Nat.le_of_ble_eq_true rfl, Nat.le_of_ble_eq_true rfl, Nat.le_of_ble_eq_true rfl⟩ (Nat.le_of_ble_eq_true rfl) ?_
      refine w_aload_n 0 ((some (10))) dX6_readRule_46 rfl rfl ?_
      replace h := e_bind h; obtain ⟨q15, e16, h⟩ := h
      refine w_callV0 (M2 := m_X6_goOn) (av := []) (ci := 6) (c_X6_goOn  _ _ e16) dX6_readRule_47 kd_X6_goOn wd_27_19 wd_27_20 wd_27_21 rfl rfl ⟨rfl, Or.inr ⟨rfl, by decide⟩⟩ rfl ⟨Nat.le_of_ble_eq_true rfl, Nat.le_of_ble_eq_true rfl, Nat.le_of_ble_eq_true rfl, Nat.le_of_ble_eq_true rfl⟩ (Nat.le_of_ble_eq_true rfl) ?_
      refine w_aload_n 0 ((some (10))) dX6_readRule_50 rfl rfl ?_
      refine w_iconst (v := 5) dX6_readRule_51 (by decide) ?_
      replace h := e_bind h; obtain ⟨q17, e18, h⟩ := h
      refine w_callV1 (M2 := m_X6_isWord) (av := [.int (5)]) (ci := 6) (c_X6_isWord _ _ _ e18) dX6_readRule_52 kd_X6_isWord wd_28_12 wd_28_13 wd_28_14 rfl rfl ⟨rfl, Or.inr ⟨rfl, by decide⟩⟩ rfl ⟨Nat.le_of_ble_eq_true rfl, Nat.le_of_ble_eq_true rfl, Nat.le_of_ble_eq_true rfl, Nat.le_of_ble_eq_true rfl⟩ (Nat.le_of_ble_eq_true rfl) ?_
      refine w_if_ne 64 dX6_readRule_55 (by decide) (fun c19 => ?_) (fun c19 => ?_)
      · replace h := e_f c19 h
        refine w_iconst (v := 0) dX6_readRule_64 (by decide) ?_
        refine w_istore_n dX6_readRule_65 rfl (by decide) rfl ?_
        refine w_sub [1, 0] rfl ?_
        exact l_X6_readRule_66 aN _ _ _ h
      · replace h := e_t c19 h
        refine w_aload_n 0 ((some (10))) dX6_readRule_58 rfl rfl ?_
        refine w_iconst (v := 1) dX6_readRule_59 (by decide) ?_
        replace h := e_bind h; obtain ⟨q20, e21, h⟩ := h
        refine w_callV1 (M2 := m_X6_fail) (av := [.int (1)]) (ci := 6) (c_X6_fail _ _ _ e21) dX6_readRule_60 kd_X6_fail wd_28_3 wd_28_4 wd_28_5 rfl rfl ⟨rfl, Or.inr ⟨rfl, by decide⟩⟩ rfl ⟨Nat.le_of_ble_eq_true rfl, Nat.le_of_ble_eq_true rfl, Nat.le_of_ble_eq_true rfl, Nat.le_of_ble_eq_true rfl⟩ (Nat.le_of_ble_eq_true rfl) ?_
        replace h := e_grd h; obtain ⟨g22, h⟩ := h
        obtain rfl := Option.some.inj h
        exact w_zreturn dX6_readRule_63 rfl (e_nz g22) (Nat.le_of_ble_eq_true rfl) (Nat.le_of_ble_eq_true rfl)
    · replace h := e_t c9 h
      refine w_iconst (v := 0) dX6_readRule_33 (by decide) ?_
      obtain rfl := Option.some.inj h
      exact w_zreturn dX6_readRule_34 rfl rfl (Nat.le_of_ble_eq_true rfl) (Nat.le_of_ble_eq_true rfl)
  · replace h := e_f c4 h
    refine w_aload_n 0 ((some (10))) dX6_readRule_12 rfl rfl ?_
    refine w_iconst (v := 3) dX6_readRule_13 (by decide) ?_
    replace h := e_bind h; obtain ⟨q23, e24, h⟩ := h
    refine w_callV1 (M2 := m_X6_fail) (av := [.int (3)]) (ci := 6) (c_X6_fail _ _ _ e24) dX6_readRule_14 kd_X6_fail wd_28_3 wd_28_4 wd_28_5 rfl rfl ⟨rfl, Or.inr ⟨rfl, by decide⟩⟩ rfl ⟨Nat.le_of_ble_eq_true rfl, Nat.le_of_ble_eq_true rfl, Nat.le_of_ble_eq_true rfl, Nat.le_of_ble_eq_true rfl⟩ (Nat.le_of_ble_eq_true rfl) ?_
    replace h := e_grd h; obtain ⟨g25, h⟩ := h
    obtain rfl := Option.some.inj h
    exact w_zreturn dX6_readRule_17 rfl (e_nz g25) (Nat.le_of_ble_eq_true rfl) (Nat.le_of_ble_eq_true rfl)
theorem dX6_readStatement_0 : decode cX6_readStatement 0 = .ok (.aload_n 0, 1) := by decide +kernel
theorem dX6_readStatement_1 : decode cX6_readStatement 1 = .ok (.getfield 27, 3) := by decide +kernel
theorem dX6_readStatement_4 : decode cX6_readStatement 4 = .ok (.iconst 1, 1) := by decide +kernel
theorem dX6_readStatement_5 : decode cX6_readStatement 5 = .ok (.if_icmp .ne 24, 3) := by decide +kernel
theorem dX6_readStatement_8 : decode cX6_readStatement 8 = .ok (.aload_n 0, 1) := by decide +kernel
theorem dX6_readStatement_9 : decode cX6_readStatement 9 = .ok (.getfield 30, 3) := by decide +kernel
theorem dX6_readStatement_12 : decode cX6_readStatement 12 = .ok (.iconst 0, 1) := by decide +kernel
theorem dX6_readStatement_13 : decode cX6_readStatement 13 = .ok (.iconst 3, 1) := by decide +kernel
theorem dX6_readStatement_14 : decode cX6_readStatement 14 = .ok (.invokestatic 60, 3) := by decide +kernel
theorem dX6_readStatement_17 : decode cX6_readStatement 17 = .ok (.ifCond .eq 12, 3) := by decide +kernel
theorem dX6_readStatement_20 : decode cX6_readStatement 20 = .ok (.aload_n 0, 1) := by decide +kernel
theorem dX6_readStatement_21 : decode cX6_readStatement 21 = .ok (.aload_n 0, 1) := by decide +kernel
theorem dX6_readStatement_22 : decode cX6_readStatement 22 = .ok (.getfield 30, 3) := by decide +kernel
theorem dX6_readStatement_25 : decode cX6_readStatement 25 = .ok (.invokevirtual 64, 3) := by decide +kernel
theorem dX6_readStatement_28 : decode cX6_readStatement 28 = .ok (.ireturn, 1) := by decide +kernel
theorem dX6_readStatement_29 : decode cX6_readStatement 29 = .ok (.aload_n 0, 1) := by decide +kernel
theorem dX6_readStatement_30 : decode cX6_readStatement 30 = .ok (.iconst 4, 1) := by decide +kernel
theorem dX6_readStatement_31 : decode cX6_readStatement 31 = .ok (.invokevirtual 68, 3) := by decide +kernel
theorem dX6_readStatement_34 : decode cX6_readStatement 34 = .ok (.ifCond .eq 10, 3) := by decide +kernel
theorem dX6_readStatement_37 : decode cX6_readStatement 37 = .ok (.aload_n 0, 1) := by decide +kernel
theorem dX6_readStatement_38 : decode cX6_readStatement 38 = .ok (.invokevirtual 71, 3) := by decide +kernel
theorem dX6_readStatement_41 : decode cX6_readStatement 41 = .ok (.goto 8, 3) := by decide +kernel
theorem dX6_readStatement_44 : decode cX6_readStatement 44 = .ok (.aload_n 0, 1) := by decide +kernel
theorem dX6_readStatement_45 : decode cX6_readStatement 45 = .ok (.iconst 1, 1) := by decide +kernel
theorem dX6_readStatement_46 : decode cX6_readStatement 46 = .ok (.invokevirtual 74, 3) := by decide +kernel
theorem dX6_readStatement_49 : decode cX6_readStatement 49 = .ok (.ireturn, 1) := by decide +kernel
theorem kd_X6_readStatement : aKd m_X6_readStatement 0 := ⟨wd_27_12, wd_2_1, ⟨by decide +kernel, by decide +kernel, by decide +kernel⟩⟩
set_option maxRecDepth 100000 in
set_option maxHeartbeats 4000000 in
theorem l_X6_readStatement_49  (t0 : Int32) (σ : aSt) (o : Int32 × aSt) (h : f_X6_readStatement_49  t0 σ = some o) : AW true m_X6_readStatement 49 [] [.int (t0)] σ 0 0 (some (.int o.1)) o.2 := by
  unfold f_X6_readStatement_49 at h
  replace h := e_grd h; obtain ⟨g8, h⟩ := h
  obtain rfl := Option.some.inj h
  exact w_zreturn dX6_readStatement_49 rfl (e_nz g8) (Nat.le_of_ble_eq_true rfl) (Nat.le_of_ble_eq_true rfl)
set_option maxRecDepth 100000 in
set_option maxHeartbeats 4000000 in
theorem l_X6_readStatement_29   (σ : aSt) (o : Int32 × aSt) (h : f_X6_readStatement_29   σ = some o) : AW true m_X6_readStatement 29 [(0, va_rf (some (10)))] [] σ 0 0 (some (.int o.1)) o.2 := by
  unfold f_X6_readStatement_29 at h
  refine w_aload_n 0 ((some (10))) dX6_readStatement_29 rfl rfl ?_
  refine w_iconst (v := 4) dX6_readStatement_30 (by decide) ?_
  replace h := e_bind h; obtain ⟨q9, e10, h⟩ := h
  refine w_callV1 (M2 := m_X6_isWord) (av := [.int (4)]) (ci := 6) (c_X6_isWord _ _ _ e10) dX6_readStatement_31 kd_X6_isWord wd_28_12 wd_28_13 wd_28_14 rfl rfl ⟨rfl, Or.inr ⟨rfl, by decide⟩⟩ rfl ⟨Nat.le_of_ble_eq_true rfl, Nat.le_of_ble_eq_true rfl, Nat.le_of_ble_eq_true rfl, Nat.le_of_ble_eq_true rfl⟩ (Nat.le_of_ble_eq_true rfl) ?_
  refine w_if_eq 44 dX6_readStatement_34 (by decide) (fun c11 => ?_) (fun c11 => ?_)
  · replace h := e_t c11 h
    refine w_aload_n 0 ((some (10))) dX6_readStatement_44 rfl rfl ?_
    refine w_iconst (v := 1) dX6_readStatement_45 (by decide) ?_
    replace h := e_bind h; obtain ⟨q12, e13, h⟩ := h
    refine w_callV1 (M2 := m_X6_fail) (av := [.int (1)]) (ci := 6) (c_X6_fail _ _ _ e13) dX6_readStatement_46 kd_X6_fail wd_28_3 wd_28_4 wd_28_5 rfl rfl ⟨rfl, Or.inr ⟨rfl, by decide⟩⟩ rfl ⟨Nat.le_of_ble_eq_true rfl, Nat.le_of_ble_eq_true rfl, Nat.le_of_ble_eq_true rfl, Nat.le_of_ble_eq_true rfl⟩ (Nat.le_of_ble_eq_true rfl) ?_
    refine w_sub [] rfl ?_
    exact l_X6_readStatement_49 _ _ _ h
  · replace h := e_f c11 h
    refine w_aload_n 0 ((some (10))) dX6_readStatement_37 rfl rfl ?_
    replace h := e_bind h; obtain ⟨q14, e15, h⟩ := h
    refine w_callV1 (M2 := m_X6_readRule) (av := []) (ci := 6) (c_X6_readRule  _ _ e15) dX6_readStatement_38 kd_X6_readRule wd_28_16 wd_28_17 wd_28_18 rfl rfl ⟨rfl, Or.inr ⟨rfl, by decide⟩⟩ rfl ⟨Nat.le_of_ble_eq_true rfl, Nat.le_of_ble_eq_true rfl, Nat.le_of_ble_eq_true rfl, Nat.le_of_ble_eq_true rfl⟩ (Nat.le_of_ble_eq_true rfl) ?_
    refine w_goto 49 dX6_readStatement_41 (by decide) ?_
    refine w_sub [] rfl ?_
    exact l_X6_readStatement_49 _ _ _ h
set_option maxRecDepth 100000 in
set_option maxHeartbeats 4000000 in
theorem c_X6_readStatement  (σ : aSt) (o : Int32 × aSt) (h : f_X6_readStatement  σ = some o) : AM true m_X6_readStatement [va_rf (some (10))] σ (some (.int o.1)) o.2 := by
  refine AM_of2 (lv := [(0, va_rf (some (10)))]) (by decide +kernel) rfl (Nat.le_of_ble_eq_true rfl) ?_
  unfold f_X6_readStatement at h
  refine w_aload_n 0 ((some (10))) dX6_readStatement_0 rfl rfl ?_
  refine w_get dX6_readStatement_1 fl_RX6_27 ⟨rfl, Or.inr ⟨rfl, by decide⟩⟩ (aFv_i rfl) ?_
  refine w_iconst (v := 1) dX6_readStatement_4 (by decide) ?_
  refine w_icmp_ne 29 dX6_readStatement_5 (by decide) (fun c1 => ?_) (fun c1 => ?_)
  · replace h := e_f c1 h
    exact l_X6_readStatement_29 _ _ h
  · replace h := e_t c1 h
    refine w_aload_n 0 ((some (10))) dX6_readStatement_8 rfl rfl ?_
    refine w_get dX6_readStatement_9 fl_RX6_30 ⟨rfl, Or.inr ⟨rfl, by decide⟩⟩ (aFv_i rfl) ?_
    refine w_iconst (v := 0) dX6_readStatement_12 (by decide) ?_
    refine w_iconst (v := 3) dX6_readStatement_13 (by decide) ?_
    replace h := e_bind h; obtain ⟨q2, e3, h⟩ := h
    refine w_callSN1 (M2 := m_X11_within) (av := [.int (gI σ 10 6), .int (0), .int (3)]) (host := RX11) (c_X11_within _ _ _ _ _ e3) dX6_readStatement_14 kd_X11_within (by decide +kernel) wd_9_23 rfl rfl ⟨Nat.le_of_ble_eq_true rfl, Nat.le_of_ble_eq_true rfl, Nat.le_of_ble_eq_true rfl, Nat.le_of_ble_eq_true rfl⟩ (Nat.le_of_ble_eq_true rfl) ?_
    refine w_if_eq 29 dX6_readStatement_17 (by decide) (fun c4 => ?_) (fun c4 => ?_)
    · replace h := e_t c4 h
      exact l_X6_readStatement_29 _ _ h
    · replace h := e_f c4 h
      refine w_aload_n 0 ((some (10))) dX6_readStatement_20 rfl rfl ?_
      refine w_aload_n 0 ((some (10))) dX6_readStatement_21 rfl rfl ?_
      refine w_get dX6_readStatement_22 fl_RX6_30 ⟨rfl, Or.inr ⟨rfl, by decide⟩⟩ (aFv_i rfl) ?_
      replace h := e_bind h; obtain ⟨q5, e6, h⟩ := h
      refine w_callV1 (M2 := m_X6_readLimit) (av := [.int (gI q2.2 10 6)]) (ci := 6) (c_X6_readLimit _ _ _ e6) dX6_readStatement_25 kd_X6_readLimit wd_27_13 wd_27_14 wd_27_15 rfl rfl ⟨rfl, Or.inr ⟨rfl, by decide⟩⟩ rfl ⟨Nat.le_of_ble_eq_true rfl, Nat.le_of_ble_eq_true rfl, Nat.le_of_ble_eq_true rfl, Nat.le_of_ble_eq_true rfl⟩ (Nat.le_of_ble_eq_true rfl) ?_
      replace h := e_grd h; obtain ⟨g7, h⟩ := h
      obtain rfl := Option.some.inj h
      exact w_zreturn dX6_readStatement_28 rfl (e_nz g7) (Nat.le_of_ble_eq_true rfl) (Nat.le_of_ble_eq_true rfl)
theorem dX6_read_0 : decode cX6_read 0 = .ok (.aload_n 0, 1) := by decide +kernel
theorem dX6_read_1 : decode cX6_read 1 = .ok (.getfield 33, 3) := by decide +kernel
theorem dX6_read_4 : decode cX6_read 4 = .ok (.invokevirtual 37, 3) := by decide +kernel
theorem dX6_read_7 : decode cX6_read 7 = .ok (.aload_n 0, 1) := by decide +kernel
theorem dX6_read_8 : decode cX6_read 8 = .ok (.aload_n 1, 1) := by decide +kernel
theorem dX6_read_9 : decode cX6_read 9 = .ok (.putfield 18, 3) := by decide +kernel
theorem dX6_read_12 : decode cX6_read 12 = .ok (.aload_n 0, 1) := by decide +kernel
theorem dX6_read_13 : decode cX6_read 13 = .ok (.getfield 18, 3) := by decide +kernel
theorem dX6_read_16 : decode cX6_read 16 = .ok (.invokevirtual 40, 3) := by decide +kernel
theorem dX6_read_19 : decode cX6_read 19 = .ok (.aload_n 0, 1) := by decide +kernel
theorem dX6_read_20 : decode cX6_read 20 = .ok (.iconst 0, 1) := by decide +kernel
theorem dX6_read_21 : decode cX6_read 21 = .ok (.invokevirtual 45, 3) := by decide +kernel
theorem dX6_read_24 : decode cX6_read 24 = .ok (.iconst 0, 1) := by decide +kernel
theorem dX6_read_25 : decode cX6_read 25 = .ok (.istore_n 2, 1) := by decide +kernel
theorem dX6_read_26 : decode cX6_read 26 = .ok (.iload_n 2, 1) := by decide +kernel
theorem dX6_read_27 : decode cX6_read 27 = .ok (.sipush 600, 3) := by decide +kernel
theorem dX6_read_30 : decode cX6_read 30 = .ok (.if_icmp .ge 26, 3) := by decide +kernel
theorem dX6_read_33 : decode cX6_read 33 = .ok (.aload_n 0, 1) := by decide +kernel
theorem dX6_read_34 : decode cX6_read 34 = .ok (.getfield 27, 3) := by decide +kernel
theorem dX6_read_37 : decode cX6_read 37 = .ok (.iconst 4, 1) := by decide +kernel
theorem dX6_read_38 : decode cX6_read 38 = .ok (.if_icmp .eq 18, 3) := by decide +kernel
theorem dX6_read_41 : decode cX6_read 41 = .ok (.aload_n 0, 1) := by decide +kernel
theorem dX6_read_42 : decode cX6_read 42 = .ok (.invokevirtual 49, 3) := by decide +kernel
theorem dX6_read_45 : decode cX6_read 45 = .ok (.ifCond .ne 5, 3) := by decide +kernel
theorem dX6_read_48 : decode cX6_read 48 = .ok (.iconst 0, 1) := by decide +kernel
theorem dX6_read_49 : decode cX6_read 49 = .ok (.ireturn, 1) := by decide +kernel
theorem dX6_read_50 : decode cX6_read 50 = .ok (.iinc 2 1, 3) := by decide +kernel
theorem dX6_read_53 : decode cX6_read 53 = .ok (.goto (-27), 3) := by decide +kernel
theorem dX6_read_56 : decode cX6_read 56 = .ok (.iconst 1, 1) := by decide +kernel
theorem dX6_read_57 : decode cX6_read 57 = .ok (.ireturn, 1) := by decide +kernel
theorem kd_X6_read : aKd m_X6_read 1 := ⟨wd_23_10, wd_2_1, ⟨by decide +kernel, by decide +kernel, by decide +kernel⟩⟩
set_option maxRecDepth 100000 in
set_option maxHeartbeats 4000000 in
theorem l_X6_read_56   (σ : aSt) (o : Int32 × aSt) (h : f_X6_read_56   σ = some o) : AW true m_X6_read 56 [] [] σ 0 0 (some (.int o.1)) o.2 := by
  unfold f_X6_read_56 at h
  refine w_iconst (v := 1) dX6_read_56 (by decide) ?_
  obtain rfl := Option.some.inj h
  exact w_zreturn dX6_read_57 rfl rfl (Nat.le_of_ble_eq_true rfl) (Nat.le_of_ble_eq_true rfl)
set_option maxRecDepth 100000 in
set_option maxHeartbeats 4000000 in
theorem l_X6_read_26_b (rec26 : Int32 → aSt → Option (Int32 × aSt)) (hrec26 : ∀ (x2 : Int32) (σ : aSt) (o : Int32 × aSt), rec26 x2 σ = some o → AW true m_X6_read 26 [(0, va_rf (some (10))), (2, Value.int (x2))] [] σ 0 0 (some (.int o.1)) o.2) (x2 : Int32) (σ : aSt) (o : Int32 × aSt) (h : f_X6_read_26_b rec26 x2 σ = some o) : AW true m_X6_read 26 [(0, va_rf (some (10))), (2, Value.int (x2))] [] σ 0 0 (some (.int o.1)) o.2 := by
  unfold f_X6_read_26_b at h
  refine w_iload_n 1 dX6_read_26 rfl rfl ?_
  refine w_sipush (v := 600) dX6_read_27 (by decide) ?_
  refine w_icmp_ge 56 dX6_read_30 (by decide) (fun c10 => ?_) (fun c10 => ?_)
  · replace h := e_t c10 h
    refine w_sub [] rfl ?_
    exact l_X6_read_56 _ _ h
  · replace h := e_f c10 h
    refine w_aload_n 0 ((some (10))) dX6_read_33 rfl rfl ?_
    refine w_get dX6_read_34 fl_RX6_27 ⟨rfl, Or.inr ⟨rfl, by decide⟩⟩ (aFv_i rfl) ?_
    refine w_iconst (v := 4) dX6_read_37 (by decide) ?_
    refine w_icmp_eq 56 dX6_read_38 (by decide) (fun c11 => ?_) (fun c11 => ?_)
    · replace h := e_t c11 h
      refine w_sub [] rfl ?_
      exact l_X6_read_56 _ _ h
    · replace h := e_f c11 h
      refine w_aload_n 0 ((some (10))) dX6_read_41 rfl rfl ?_
      replace h := e_bind h; obtain ⟨q12, e13, h⟩ := h
      refine w_callV1 (M2 := m_X6_readStatement) (av := []) (ci := 6) (c_X6_readStatement  _ _ e13) dX6_read_42 kd_X6_readStatement wd_27_9 wd_27_10 wd_27_11 rfl rfl ⟨rfl, Or.inr ⟨rfl, by decide⟩⟩ rfl ⟨Nat.le_of_ble_eq_true rfl, Nat.le_of_ble_eq_true rfl, Nat.le_of_ble_eq_true rfl, Nat.le_of_ble_eq_true rfl⟩ (Nat.le_of_ble_eq_true rfl) ?_
      refine w_if_ne 50 dX6_read_45 (by decide) (fun c14 => ?_) (fun c14 => ?_)
      · replace h := e_f c14 h
        refine w_iinc (q := 1) (v := x2 + 1) dX6_read_50 rfl rfl (by decide) rfl ?_
        refine w_goto 26 dX6_read_53 (by decide) ?_
        refine w_sub [1, 0] rfl ?_
        exact hrec26 _ _ _ h
      · replace h := e_t c14 h
        refine w_iconst (v := 0) dX6_read_48 (by decide) ?_
        obtain rfl := Option.some.inj h
        exact w_zreturn dX6_read_49 rfl rfl (Nat.le_of_ble_eq_true rfl) (Nat.le_of_ble_eq_true rfl)
theorem l_X6_read_26  : ∀ (n : Nat) (x2 : Int32) (σ : aSt) (o : Int32 × aSt), f_X6_read_26  n x2 σ = some o → AW true m_X6_read 26 [(0, va_rf (some (10))), (2, Value.int (x2))] [] σ 0 0 (some (.int o.1)) o.2
  | 0 => fun x2 σ o h => by cases h
  | n + 1 => fun x2 σ o h => l_X6_read_26_b (f_X6_read_26  n) (l_X6_read_26  n) x2 σ o h
set_option maxRecDepth 100000 in
set_option maxHeartbeats 4000000 in
theorem c_X6_read (p1 : Option Nat) (σ : aSt) (o : Int32 × aSt) (h : f_X6_read p1 σ = some o) : AM true m_X6_read [va_rf (some (10)), va_rf (p1)] σ (some (.int o.1)) o.2 := by
  refine AM_of2 (lv := [(0, va_rf (some (10))), (1, va_rf (p1))]) (by decide +kernel) (by simp [lv_args, aRf_cat, aI_cat, aL_cat]) (by simp [lg_sl, aRf_cat, aI_cat, aL_cat]) ?_
  unfold f_X6_read at h
  refine w_aload_n 0 ((some (10))) dX6_read_0 rfl rfl ?_
  refine w_get (v := va_rf (some 5)) dX6_read_1 fl_RX6_33 ⟨rfl, Or.inr ⟨rfl, by decide⟩⟩ (aFv_k rfl) ?_
  replace h := e_bind h; obtain ⟨q1, e2, h⟩ := h
  refine w_callV0 (M2 := m_X10_split) (av := []) (ci := 10) (c_X10_split  _ _ e2) dX6_read_4 kd_X10_split wd_23_11 wd_23_12 wd_23_13 rfl rfl ⟨rfl, Or.inr ⟨rfl, by decide⟩⟩ rfl ⟨Nat.le_of_ble_eq_true rfl, Nat.le_of_ble_eq_true rfl, Nat.le_of_ble_eq_true rfl, Nat.le_of_ble_eq_true rfl⟩ (Nat.le_of_ble_eq_true rfl) ?_
  refine w_aload_n 0 ((some (10))) dX6_read_7 rfl rfl ?_
  refine w_aload_n 1 (p1) dX6_read_8 rfl rfl ?_
  refine w_putQ (v := p1) dX6_read_9 fl_RX6_18 (Or.inl rfl) (Or.inl rfl) ⟨rfl, Or.inr ⟨rfl, by decide⟩⟩ (Or.inl ⟨_, rfl⟩) ?_
  refine w_aload_n 0 ((some (10))) dX6_read_12 rfl rfl ?_
  refine w_get dX6_read_13 fl_RX6_18 ⟨rfl, Or.inr ⟨rfl, by decide⟩⟩ (aFv_q (Or.inl rfl)) ?_
  replace h := e_oS h; obtain ⟨a3, r4, h⟩ := h
  rw [r4]
  replace h := e_grd h; obtain ⟨g7, h⟩ := h
  replace h := e_bind h; obtain ⟨q5, e6, h⟩ := h
  refine w_callV0 (M2 := m_X8_clear) (av := []) (ci := 8) (c_X8_clear _ _ _ e6) dX6_read_16 kd_X8_clear wd_27_2 wd_5_15 wd_5_16 rfl rfl ⟨g7.1, Or.inl g7.2⟩ rfl ⟨Nat.le_of_ble_eq_true rfl, Nat.le_of_ble_eq_true rfl, Nat.le_of_ble_eq_true rfl, Nat.le_of_ble_eq_true rfl⟩ (Nat.le_of_ble_eq_true rfl) ?_
  refine w_aload_n 0 ((some (10))) dX6_read_19 rfl rfl ?_
  refine w_iconst (v := 0) dX6_read_20 (by decide) ?_
  replace h := e_bind h; obtain ⟨q8, e9, h⟩ := h
  refine w_callV0 (M2 := m_X6_goTo) (av := [.int (0)]) (ci := 6) (c_X6_goTo _ _ _ e9) dX6_read_21 kd_X6_goTo wd_27_3 wd_27_4 wd_27_5 rfl rfl ⟨rfl, Or.inr ⟨rfl, by decide⟩⟩ rfl ⟨Nat.le_of_ble_eq_true rfl, Nat.le_of_ble_eq_true rfl, Nat.le_of_ble_eq_true rfl, Nat.le_of_ble_eq_true rfl⟩ (Nat.le_of_ble_eq_true rfl) ?_
  refine w_iconst (v := 0) dX6_read_24 (by decide) ?_
  refine w_istore_n dX6_read_25 rfl (by decide) rfl ?_
  refine w_sub [1, 0] rfl ?_
  exact l_X6_read_26 aN _ _ _ h
theorem dX2_follow_0 : decode cX2_follow 0 = .ok (.aload_n 0, 1) := by decide +kernel
theorem dX2_follow_1 : decode cX2_follow 1 = .ok (.aload_n 1, 1) := by decide +kernel
theorem dX2_follow_2 : decode cX2_follow 2 = .ok (.putfield 12, 3) := by decide +kernel
theorem dX2_follow_5 : decode cX2_follow 5 = .ok (.aload_n 0, 1) := by decide +kernel
theorem dX2_follow_6 : decode cX2_follow 6 = .ok (.invokevirtual 50, 3) := by decide +kernel
theorem dX2_follow_9 : decode cX2_follow 9 = .ok (.return_, 1) := by decide +kernel
theorem kd_X2_follow : aKd m_X2_follow 1 := ⟨wd_29_13, wd_2_5, ⟨by decide +kernel, by decide +kernel, by decide +kernel⟩⟩
set_option maxRecDepth 100000 in
set_option maxHeartbeats 4000000 in
theorem c_X2_follow (p1 : Option Nat) (σ : aSt) (o : Unit × aSt) (h : f_X2_follow p1 σ = some o) : AM true m_X2_follow [va_rf (some (11)), va_rf (p1)] σ none o.2 := by
  refine AM_of2 (lv := [(0, va_rf (some (11))), (1, va_rf (p1))]) (by decide +kernel) (by simp [lv_args, aRf_cat, aI_cat, aL_cat]) (by simp [lg_sl, aRf_cat, aI_cat, aL_cat]) ?_
  unfold f_X2_follow at h
  refine w_aload_n 0 ((some (11))) dX2_follow_0 rfl rfl ?_
  refine w_aload_n 1 (p1) dX2_follow_1 rfl rfl ?_
  refine w_putQ (v := p1) dX2_follow_2 fl_RX2_12 (Or.inl rfl) (Or.inl rfl) ⟨rfl, Or.inr ⟨rfl, by decide⟩⟩ (Or.inl ⟨_, rfl⟩) ?_
  refine w_aload_n 0 ((some (11))) dX2_follow_5 rfl rfl ?_
  replace h := e_bind h; obtain ⟨q1, e2, h⟩ := h
  refine w_callV0 (M2 := m_X2_forget) (av := []) (ci := 2) (c_X2_forget  _ _ e2) dX2_follow_6 kd_X2_forget wd_6_4 wd_6_5 wd_6_6 rfl rfl ⟨rfl, Or.inr ⟨rfl, by decide⟩⟩ rfl ⟨Nat.le_of_ble_eq_true rfl, Nat.le_of_ble_eq_true rfl, Nat.le_of_ble_eq_true rfl, Nat.le_of_ble_eq_true rfl⟩ (Nat.le_of_ble_eq_true rfl) ?_
  obtain rfl := Option.some.inj h
  exact w_vreturn dX2_follow_9 rfl (Nat.le_of_ble_eq_true rfl) (Nat.le_of_ble_eq_true rfl)
theorem dX11_rules_0 : decode cX11_rules 0 = .ok (.aload_n 0, 1) := by decide +kernel
theorem dX11_rules_1 : decode cX11_rules 1 = .ok (.getfield 34, 3) := by decide +kernel
theorem dX11_rules_4 : decode cX11_rules 4 = .ok (.aload_n 0, 1) := by decide +kernel
theorem dX11_rules_5 : decode cX11_rules 5 = .ok (.getfield 73, 3) := by decide +kernel
theorem dX11_rules_8 : decode cX11_rules 8 = .ok (.invokevirtual 203, 3) := by decide +kernel
theorem dX11_rules_11 : decode cX11_rules 11 = .ok (.istore_n 1, 1) := by decide +kernel
theorem dX11_rules_12 : decode cX11_rules 12 = .ok (.aload_n 0, 1) := by decide +kernel
theorem dX11_rules_13 : decode cX11_rules 13 = .ok (.getfield 25, 3) := by decide +kernel
theorem dX11_rules_16 : decode cX11_rules 16 = .ok (.iconst 0, 1) := by decide +kernel
theorem dX11_rules_17 : decode cX11_rules 17 = .ok (.putfield 197, 3) := by decide +kernel
theorem dX11_rules_20 : decode cX11_rules 20 = .ok (.iload_n 1, 1) := by decide +kernel
theorem dX11_rules_21 : decode cX11_rules 21 = .ok (.ifCond .ne 25, 3) := by decide +kernel
theorem dX11_rules_24 : decode cX11_rules 24 = .ok (.aload_n 0, 1) := by decide +kernel
theorem dX11_rules_25 : decode cX11_rules 25 = .ok (.aload_n 0, 1) := by decide +kernel
theorem dX11_rules_26 : decode cX11_rules 26 = .ok (.getfield 34, 3) := by decide +kernel
theorem dX11_rules_29 : decode cX11_rules 29 = .ok (.getfield 207, 3) := by decide +kernel
theorem dX11_rules_32 : decode cX11_rules 32 = .ok (.putfield 77, 3) := by decide +kernel
theorem dX11_rules_35 : decode cX11_rules 35 = .ok (.ldc 210, 2) := by decide +kernel
theorem dX11_rules_37 : decode cX11_rules 37 = .ok (.aload_n 0, 1) := by decide +kernel
theorem dX11_rules_38 : decode cX11_rules 38 = .ok (.getfield 34, 3) := by decide +kernel
theorem dX11_rules_41 : decode cX11_rules 41 = .ok (.getfield 211, 3) := by decide +kernel
theorem dX11_rules_44 : decode cX11_rules 44 = .ok (.isub, 1) := by decide +kernel
theorem dX11_rules_45 : decode cX11_rules 45 = .ok (.ireturn, 1) := by decide +kernel
theorem dX11_rules_46 : decode cX11_rules 46 = .ok (.aload_n 0, 1) := by decide +kernel
theorem dX11_rules_47 : decode cX11_rules 47 = .ok (.getfield 43, 3) := by decide +kernel
theorem dX11_rules_50 : decode cX11_rules 50 = .ok (.getfield 214, 3) := by decide +kernel
theorem dX11_rules_53 : decode cX11_rules 53 = .ok (.astore_n 2, 1) := by decide +kernel
theorem dX11_rules_54 : decode cX11_rules 54 = .ok (.aload_n 0, 1) := by decide +kernel
theorem dX11_rules_55 : decode cX11_rules 55 = .ok (.getfield 43, 3) := by decide +kernel
theorem dX11_rules_58 : decode cX11_rules 58 = .ok (.aload_n 0, 1) := by decide +kernel
theorem dX11_rules_59 : decode cX11_rules 59 = .ok (.getfield 73, 3) := by decide +kernel
theorem dX11_rules_62 : decode cX11_rules 62 = .ok (.invokevirtual 217, 3) := by decide +kernel
theorem dX11_rules_65 : decode cX11_rules 65 = .ok (.aload_n 0, 1) := by decide +kernel
theorem dX11_rules_66 : decode cX11_rules 66 = .ok (.aload_n 2, 1) := by decide +kernel
theorem dX11_rules_67 : decode cX11_rules 67 = .ok (.putfield 73, 3) := by decide +kernel
theorem dX11_rules_70 : decode cX11_rules 70 = .ok (.aload_n 0, 1) := by decide +kernel
theorem dX11_rules_71 : decode cX11_rules 71 = .ok (.getfield 43, 3) := by decide +kernel
theorem dX11_rules_74 : decode cX11_rules 74 = .ok (.getfield 214, 3) := by decide +kernel
theorem dX11_rules_77 : decode cX11_rules 77 = .ok (.getfield 221, 3) := by decide +kernel
theorem dX11_rules_80 : decode cX11_rules 80 = .ok (.ireturn, 1) := by decide +kernel
theorem kd_X11_rules : aKd m_X11_rules 0 := ⟨wd_23_1, wd_1_2, ⟨by decide +kernel, by decide +kernel, by decide +kernel⟩⟩
set_option maxRecDepth 100000 in
set_option maxHeartbeats 4000000 in
theorem c_X11_rules  (σ : aSt) (o : Int32 × aSt) (h : f_X11_rules  σ = some o) : AM true m_X11_rules [va_rf (some (0))] σ (some (.int o.1)) o.2 := by
  refine AM_of2 (lv := [(0, va_rf (some (0)))]) (by decide +kernel) rfl (Nat.le_of_ble_eq_true rfl) ?_
  unfold f_X11_rules at h
  refine w_aload_n 0 ((some (0))) dX11_rules_0 rfl rfl ?_
  refine w_get (v := va_rf (some 10)) dX11_rules_1 fl_RX11_34 ⟨rfl, Or.inr ⟨rfl, by decide⟩⟩ (aFv_k rfl) ?_
  refine w_aload_n 0 ((some (0))) dX11_rules_4 rfl rfl ?_
  refine w_get dX11_rules_5 fl_RX11_73 ⟨rfl, Or.inr ⟨rfl, by decide⟩⟩ (aFv_q (Or.inl rfl)) ?_
  replace h := e_bind h; obtain ⟨q1, e2, h⟩ := h
  refine w_callV1 (M2 := m_X6_read) (av := [va_rf (gR σ 0 8)]) (ci := 6) (c_X6_read _ _ _ e2) dX11_rules_8 kd_X6_read wd_23_7 wd_23_8 wd_23_9 rfl rfl ⟨rfl, Or.inr ⟨rfl, by decide⟩⟩ rfl ⟨Nat.le_of_ble_eq_true rfl, Nat.le_of_ble_eq_true rfl, Nat.le_of_ble_eq_true rfl, Nat.le_of_ble_eq_true rfl⟩ (Nat.le_of_ble_eq_true rfl) ?_
  refine w_istore_n dX11_rules_11 rfl (by decide) rfl ?_
  refine w_aload_n 1 ((some (0))) dX11_rules_12 rfl rfl ?_
  refine w_get (v := va_rf (some 5)) dX11_rules_13 fl_RX11_25 ⟨rfl, Or.inr ⟨rfl, by decide⟩⟩ (aFv_k rfl) ?_
  refine w_iconst (v := 0) dX11_rules_16 (by decide) ?_
  refine w_putI dX11_rules_17 fl_RX11_197 (Or.inl rfl) rfl ⟨rfl, Or.inr ⟨rfl, by decide⟩⟩ ?_
  refine w_iload_n 0 dX11_rules_20 rfl rfl ?_
  refine w_if_ne 46 dX11_rules_21 (by decide) (fun c3 => ?_) (fun c3 => ?_)
  · replace h := e_f c3 h
    refine w_aload_n 1 ((some (0))) dX11_rules_46 rfl rfl ?_
    refine w_get (v := va_rf (some 11)) dX11_rules_47 fl_RX11_43 ⟨rfl, Or.inr ⟨rfl, by decide⟩⟩ (aFv_k rfl) ?_
    refine w_get dX11_rules_50 fl_RX11_214 ⟨rfl, Or.inr ⟨rfl, by decide⟩⟩ (aFv_q (Or.inl rfl)) ?_
    refine w_astore_n dX11_rules_53 rfl (by decide) rfl ?_
    refine w_aload_n 2 ((some (0))) dX11_rules_54 rfl rfl ?_
    refine w_get (v := va_rf (some 11)) dX11_rules_55 fl_RX11_43 ⟨rfl, Or.inr ⟨rfl, by decide⟩⟩ (aFv_k rfl) ?_
    refine w_aload_n 2 ((some (0))) dX11_rules_58 rfl rfl ?_
    refine w_get dX11_rules_59 fl_RX11_73 ⟨rfl, Or.inr ⟨rfl, by decide⟩⟩ (aFv_q (Or.inl rfl)) ?_
    replace h := e_bind h; obtain ⟨q4, e5, h⟩ := h
    refine w_callV0 (M2 := m_X2_follow) (av := [va_rf (gR (sI q1.2 5 3 (0)) 0 8)]) (ci := 2) (c_X2_follow _ _ _ e5) dX11_rules_62 kd_X2_follow wd_29_10 wd_29_11 wd_29_12 rfl rfl ⟨rfl, Or.inr ⟨rfl, by decide⟩⟩ rfl ⟨Nat.le_of_ble_eq_true rfl, Nat.le_of_ble_eq_true rfl, Nat.le_of_ble_eq_true rfl, Nat.le_of_ble_eq_true rfl⟩ (Nat.le_of_ble_eq_true rfl) ?_
    refine w_aload_n 2 ((some (0))) dX11_rules_65 rfl rfl ?_
    refine w_aload_n 0 (gR (sI q1.2 5 3 (0)) 11 0) dX11_rules_66 rfl rfl ?_
    refine w_putQ (v := (gR (sI q1.2 5 3 (0)) 11 0)) dX11_rules_67 fl_RX11_73 (Or.inl rfl) (Or.inl rfl) ⟨rfl, Or.inr ⟨rfl, by decide⟩⟩ (Or.inl ⟨_, rfl⟩) ?_
    refine w_aload_n 2 ((some (0))) dX11_rules_70 rfl rfl ?_
    refine w_get (v := va_rf (some 11)) dX11_rules_71 fl_RX11_43 ⟨rfl, Or.inr ⟨rfl, by decide⟩⟩ (aFv_k rfl) ?_
    refine w_get dX11_rules_74 fl_RX11_214 ⟨rfl, Or.inr ⟨rfl, by decide⟩⟩ (aFv_q (Or.inl rfl)) ?_
    replace h := e_oS h; obtain ⟨a6, r7, h⟩ := h
    rw [r7]
    replace h := e_grd h; obtain ⟨g8, h⟩ := h
    refine w_get dX11_rules_77 fl_RX11_221 ⟨g8.1, Or.inl g8.2⟩ (aFv_i rfl) ?_
    obtain rfl := Option.some.inj h
    exact w_ireturn dX11_rules_80 rfl (Nat.le_of_ble_eq_true rfl) (Nat.le_of_ble_eq_true rfl)
  · replace h := e_t c3 h
    refine w_aload_n 1 ((some (0))) dX11_rules_24 rfl rfl ?_
    refine w_aload_n 1 ((some (0))) dX11_rules_25 rfl rfl ?_
    refine w_get (v := va_rf (some 10)) dX11_rules_26 fl_RX11_34 ⟨rfl, Or.inr ⟨rfl, by decide⟩⟩ (aFv_k rfl) ?_
    refine w_get dX11_rules_29 fl_RX11_207 ⟨rfl, Or.inr ⟨rfl, by decide⟩⟩ (aFv_i rfl) ?_
    refine w_putI dX11_rules_32 fl_RX11_77 (Or.inl rfl) rfl ⟨rfl, Or.inr ⟨rfl, by decide⟩⟩ ?_
    refine w_ldc (v := (-1000100)) dX11_rules_35 wd_23_3 ?_
    refine w_aload_n 1 ((some (0))) dX11_rules_37 rfl rfl ?_
    refine w_get (v := va_rf (some 10)) dX11_rules_38 fl_RX11_34 ⟨rfl, Or.inr ⟨rfl, by decide⟩⟩ (aFv_k rfl) ?_
    refine w_get dX11_rules_41 fl_RX11_211 ⟨rfl, Or.inr ⟨rfl, by decide⟩⟩ (aFv_i rfl) ?_
    refine w_isub dX11_rules_44 ?_
    obtain rfl := Option.some.inj h
    exact w_ireturn dX11_rules_45 rfl (Nat.le_of_ble_eq_true rfl) (Nat.le_of_ble_eq_true rfl)
theorem dX11_fault_0 : decode cX11_fault 0 = .ok (.aload_n 0, 1) := by decide +kernel
theorem dX11_fault_1 : decode cX11_fault 1 = .ok (.getfield 77, 3) := by decide +kernel
theorem dX11_fault_4 : decode cX11_fault 4 = .ok (.ireturn, 1) := by decide +kernel
theorem kd_X11_fault : aKd m_X11_fault 0 := ⟨wd_33_1, wd_1_2, ⟨by decide +kernel, by decide +kernel, by decide +kernel⟩⟩
set_option maxRecDepth 100000 in
set_option maxHeartbeats 4000000 in
theorem c_X11_fault  (σ : aSt) (o : Int32 × aSt) (h : f_X11_fault  σ = some o) : AM true m_X11_fault [va_rf (some (0))] σ (some (.int o.1)) o.2 := by
  refine AM_of2 (lv := [(0, va_rf (some (0)))]) (by decide +kernel) rfl (Nat.le_of_ble_eq_true rfl) ?_
  unfold f_X11_fault at h
  refine w_aload_n 0 ((some (0))) dX11_fault_0 rfl rfl ?_
  refine w_get dX11_fault_1 fl_RX11_77 ⟨rfl, Or.inr ⟨rfl, by decide⟩⟩ (aFv_i rfl) ?_
  obtain rfl := Option.some.inj h
  exact w_ireturn dX11_fault_4 rfl (Nat.le_of_ble_eq_true rfl) (Nat.le_of_ble_eq_true rfl)
theorem dX11_rule_0 : decode cX11_rule 0 = .ok (.iload_n 1, 1) := by decide +kernel
theorem dX11_rule_1 : decode cX11_rule 1 = .ok (.iconst 0, 1) := by decide +kernel
theorem dX11_rule_2 : decode cX11_rule 2 = .ok (.iconst 3, 1) := by decide +kernel
theorem dX11_rule_3 : decode cX11_rule 3 = .ok (.invokestatic 89, 3) := by decide +kernel
theorem dX11_rule_6 : decode cX11_rule 6 = .ok (.ifCond .ne 6, 3) := by decide +kernel
theorem dX11_rule_9 : decode cX11_rule 9 = .ok (.ldc 93, 2) := by decide +kernel
theorem dX11_rule_11 : decode cX11_rule 11 = .ok (.ireturn, 1) := by decide +kernel
theorem dX11_rule_12 : decode cX11_rule 12 = .ok (.aload_n 0, 1) := by decide +kernel
theorem dX11_rule_13 : decode cX11_rule 13 = .ok (.getfield 43, 3) := by decide +kernel
theorem dX11_rule_16 : decode cX11_rule 16 = .ok (.getfield 214, 3) := by decide +kernel
theorem dX11_rule_19 : decode cX11_rule 19 = .ok (.getfield 222, 3) := by decide +kernel
theorem dX11_rule_22 : decode cX11_rule 22 = .ok (.iload_n 1, 1) := by decide +kernel
theorem dX11_rule_23 : decode cX11_rule 23 = .ok (.iaload, 1) := by decide +kernel
theorem dX11_rule_24 : decode cX11_rule 24 = .ok (.ireturn, 1) := by decide +kernel
theorem kd_X11_rule : aKd m_X11_rule 1 := ⟨wd_33_9, wd_1_2, ⟨by decide +kernel, by decide +kernel, by decide +kernel⟩⟩
set_option maxRecDepth 100000 in
set_option maxHeartbeats 4000000 in
theorem c_X11_rule (p1 : Int32) (σ : aSt) (o : Int32 × aSt) (h : f_X11_rule p1 σ = some o) : AM true m_X11_rule [va_rf (some (0)), .int (p1)] σ (some (.int o.1)) o.2 := by
  refine AM_of2 (lv := [(0, va_rf (some (0))), (1, Value.int (p1))]) (by decide +kernel) rfl (Nat.le_of_ble_eq_true rfl) ?_
  unfold f_X11_rule at h
  refine w_iload_n 1 dX11_rule_0 rfl rfl ?_
  refine w_iconst (v := 0) dX11_rule_1 (by decide) ?_
  refine w_iconst (v := 3) dX11_rule_2 (by decide) ?_
  replace h := e_bind h; obtain ⟨q1, e2, h⟩ := h
  refine w_callS1 (M2 := m_X11_within) (av := [.int (p1), .int (0), .int (3)]) (c_X11_within _ _ _ _ _ e2) dX11_rule_3 kd_X11_within wd_9_22 wd_9_23 rfl rfl ⟨Nat.le_of_ble_eq_true rfl, Nat.le_of_ble_eq_true rfl, Nat.le_of_ble_eq_true rfl, Nat.le_of_ble_eq_true rfl⟩ (Nat.le_of_ble_eq_true rfl) ?_
  refine w_if_ne 12 dX11_rule_6 (by decide) (fun c3 => ?_) (fun c3 => ?_)
  · replace h := e_f c3 h
    refine w_aload_n 0 ((some (0))) dX11_rule_12 rfl rfl ?_
    refine w_get (v := va_rf (some 11)) dX11_rule_13 fl_RX11_43 ⟨rfl, Or.inr ⟨rfl, by decide⟩⟩ (aFv_k rfl) ?_
    refine w_get dX11_rule_16 fl_RX11_214 ⟨rfl, Or.inr ⟨rfl, by decide⟩⟩ (aFv_q (Or.inl rfl)) ?_
    replace h := e_oS h; obtain ⟨a4, r5, h⟩ := h
    rw [r5]
    replace h := e_grd h; obtain ⟨g6, h⟩ := h
    refine w_get (v := va_rf (some ((a4 + 1)))) dX11_rule_19 fl_RX11_222 ⟨g6.1, Or.inl g6.2⟩ (aFv_k rfl) ?_
    refine w_iload_n 1 dX11_rule_22 rfl rfl ?_
    replace h := e_grd h; obtain ⟨g7, h⟩ := h
    replace h := e_grd h; obtain ⟨b8, h⟩ := h
    refine w_iaload dX11_rule_23 ⟨g7.1, Or.inl g7.2⟩ b8 ?_
    obtain rfl := Option.some.inj h
    exact w_ireturn dX11_rule_24 rfl (Nat.le_of_ble_eq_true rfl) (Nat.le_of_ble_eq_true rfl)
  · replace h := e_t c3 h
    refine w_ldc (v := (-1000001)) dX11_rule_9 wd_9_18 ?_
    obtain rfl := Option.some.inj h
    exact w_ireturn dX11_rule_11 rfl (Nat.le_of_ble_eq_true rfl) (Nat.le_of_ble_eq_true rfl)
