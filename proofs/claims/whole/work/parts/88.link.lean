theorem dX12_feature_0 : decode cX12_feature 0 = .ok (.aload_n 0, 1) := by decide +kernel
theorem dX12_feature_1 : decode cX12_feature 1 = .ok (.iconst 0, 1) := by decide +kernel
theorem dX12_feature_2 : decode cX12_feature 2 = .ok (.putfield 102, 3) := by decide +kernel
theorem dX12_feature_5 : decode cX12_feature 5 = .ok (.aload_n 0, 1) := by decide +kernel
theorem dX12_feature_6 : decode cX12_feature 6 = .ok (.iload_n 1, 1) := by decide +kernel
theorem dX12_feature_7 : decode cX12_feature 7 = .ok (.invokevirtual 138, 3) := by decide +kernel
theorem dX12_feature_10 : decode cX12_feature 10 = .ok (.istore 4, 2) := by decide +kernel
theorem dX12_feature_12 : decode cX12_feature 12 = .ok (.iload 4, 2) := by decide +kernel
theorem dX12_feature_14 : decode cX12_feature 14 = .ok (.ldc 126, 2) := by decide +kernel
theorem dX12_feature_16 : decode cX12_feature 16 = .ok (.if_icmp .eq 25, 3) := by decide +kernel
theorem dX12_feature_19 : decode cX12_feature 19 = .ok (.iload_n 2, 1) := by decide +kernel
theorem dX12_feature_20 : decode cX12_feature 20 = .ok (.i2l, 1) := by decide +kernel
theorem dX12_feature_21 : decode cX12_feature 21 = .ok (.lconst 0, 1) := by decide +kernel
theorem dX12_feature_22 : decode cX12_feature 22 = .ok (.ldc2_w 175, 3) := by decide +kernel
theorem dX12_feature_25 : decode cX12_feature 25 = .ok (.invokestatic 111, 3) := by decide +kernel
theorem dX12_feature_28 : decode cX12_feature 28 = .ok (.ifCond .eq 13, 3) := by decide +kernel
theorem dX12_feature_31 : decode cX12_feature 31 = .ok (.iload_n 3, 1) := by decide +kernel
theorem dX12_feature_32 : decode cX12_feature 32 = .ok (.i2l, 1) := by decide +kernel
theorem dX12_feature_33 : decode cX12_feature 33 = .ok (.lconst 0, 1) := by decide +kernel
theorem dX12_feature_34 : decode cX12_feature 34 = .ok (.lconst 1, 1) := by decide +kernel
theorem dX12_feature_35 : decode cX12_feature 35 = .ok (.invokestatic 111, 3) := by decide +kernel
theorem dX12_feature_38 : decode cX12_feature 38 = .ok (.ifCond .ne 6, 3) := by decide +kernel
theorem dX12_feature_41 : decode cX12_feature 41 = .ok (.ldc 121, 2) := by decide +kernel
theorem dX12_feature_43 : decode cX12_feature 43 = .ok (.ireturn, 1) := by decide +kernel
theorem dX12_feature_44 : decode cX12_feature 44 = .ok (.aload_n 0, 1) := by decide +kernel
theorem dX12_feature_45 : decode cX12_feature 45 = .ok (.iload 4, 2) := by decide +kernel
theorem dX12_feature_47 : decode cX12_feature 47 = .ok (.iload_n 3, 1) := by decide +kernel
theorem dX12_feature_48 : decode cX12_feature 48 = .ok (.aload_n 0, 1) := by decide +kernel
theorem dX12_feature_49 : decode cX12_feature 49 = .ok (.getfield 31, 3) := by decide +kernel
theorem dX12_feature_52 : decode cX12_feature 52 = .ok (.iload 4, 2) := by decide +kernel
theorem dX12_feature_54 : decode cX12_feature 54 = .ok (.iaload, 1) := by decide +kernel
theorem dX12_feature_55 : decode cX12_feature 55 = .ok (.invokevirtual 177, 3) := by decide +kernel
theorem dX12_feature_58 : decode cX12_feature 58 = .ok (.aload_n 0, 1) := by decide +kernel
theorem dX12_feature_59 : decode cX12_feature 59 = .ok (.getfield 56, 3) := by decide +kernel
theorem dX12_feature_62 : decode cX12_feature 62 = .ok (.iload_n 2, 1) := by decide +kernel
theorem dX12_feature_63 : decode cX12_feature 63 = .ok (.iaload, 1) := by decide +kernel
theorem dX12_feature_64 : decode cX12_feature 64 = .ok (.ireturn, 1) := by decide +kernel
theorem kd_X12_feature : aKd m_X12_feature 3 := ⟨wd_20_20, wd_1_5, ⟨by decide +kernel, by decide +kernel, by decide +kernel⟩⟩
set_option maxRecDepth 100000 in
set_option maxHeartbeats 4000000 in
theorem l_X12_feature_41   (σ : aSt) (o : Int32 × aSt) (h : f_X12_feature_41   σ = some o) : AW true m_X12_feature 41 [] [] σ 0 0 (some (.int o.1)) o.2 := by
  unfold f_X12_feature_41 at h
  refine w_ldc (v := (-1000001)) dX12_feature_41 wd_10_21 ?_
  obtain rfl := Option.some.inj h
  exact w_ireturn dX12_feature_43 rfl (Nat.le_of_ble_eq_true rfl) (Nat.le_of_ble_eq_true rfl)
set_option maxRecDepth 100000 in
set_option maxHeartbeats 4000000 in
theorem c_X12_feature (p1 : Int32) (p2 : Int32) (p3 : Int32) (σ : aSt) (o : Int32 × aSt) (h : f_X12_feature p1 p2 p3 σ = some o) : AM true m_X12_feature [va_rf (some (57)), .int (p1), .int (p2), .int (p3)] σ (some (.int o.1)) o.2 := by
  refine AM_of2 (lv := [(0, va_rf (some (57))), (1, Value.int (p1)), (2, Value.int (p2)), (3, Value.int (p3))]) (by decide +kernel) rfl (Nat.le_of_ble_eq_true rfl) ?_
  unfold f_X12_feature at h
  refine w_aload_n 0 ((some (57))) dX12_feature_0 rfl rfl ?_
  refine w_iconst (v := 0) dX12_feature_1 (by decide) ?_
  refine w_putI dX12_feature_2 fl_RX12_102 (Or.inl rfl) rfl ⟨rfl, Or.inr ⟨rfl, by decide⟩⟩ ?_
  refine w_aload_n 0 ((some (57))) dX12_feature_5 rfl rfl ?_
  refine w_iload_n 1 dX12_feature_6 rfl rfl ?_
  replace h := e_bind h; obtain ⟨q1, e2, h⟩ := h
  refine w_callV1 (M2 := m_X12_numberOf) (av := [.int (p1)]) (ci := 12) (c_X12_numberOf _ _ _ e2) dX12_feature_7 kd_X12_numberOf wd_15_15 wd_15_16 wd_15_17 rfl rfl ⟨rfl, Or.inr ⟨rfl, by decide⟩⟩ rfl ⟨Nat.le_of_ble_eq_true rfl, Nat.le_of_ble_eq_true rfl, Nat.le_of_ble_eq_true rfl, Nat.le_of_ble_eq_true rfl⟩ (Nat.le_of_ble_eq_true rfl) ?_
  refine w_istore dX12_feature_10 (by decide) rfl ?_
  refine w_iload 0 dX12_feature_12 rfl ?_
  refine w_ldc (v := (-1000000)) dX12_feature_14 wd_15_11 ?_
  refine w_icmp_eq 41 dX12_feature_16 (by decide) (fun c3 => ?_) (fun c3 => ?_)
  · replace h := e_t c3 h
    refine w_sub [] rfl ?_
    exact l_X12_feature_41 _ _ h
  · replace h := e_f c3 h
    refine w_iload_n 3 dX12_feature_19 rfl rfl ?_
    refine w_i2l dX12_feature_20 ?_
    refine w_lconst (v := 0) dX12_feature_21 (by decide) ?_
    refine w_ldc2 (v := 9) dX12_feature_22 wd_20_21 ?_
    replace h := e_bind h; obtain ⟨q4, e5, h⟩ := h
    refine w_callS1 (M2 := m_X12_in) (av := [.long (p2.toInt64), .long (0), .long (9)]) (c_X12_in _ _ _ _ _ e5) dX12_feature_25 kd_X12_in wd_11_3 wd_11_4 rfl rfl ⟨Nat.le_of_ble_eq_true rfl, Nat.le_of_ble_eq_true rfl, Nat.le_of_ble_eq_true rfl, Nat.le_of_ble_eq_true rfl⟩ (Nat.le_of_ble_eq_true rfl) ?_
    refine w_if_eq 41 dX12_feature_28 (by decide) (fun c6 => ?_) (fun c6 => ?_)
    · replace h := e_t c6 h
      refine w_sub [] rfl ?_
      exact l_X12_feature_41 _ _ h
    · replace h := e_f c6 h
      refine w_iload_n 4 dX12_feature_31 rfl rfl ?_
      refine w_i2l dX12_feature_32 ?_
      refine w_lconst (v := 0) dX12_feature_33 (by decide) ?_
      refine w_lconst (v := 1) dX12_feature_34 (by decide) ?_
      replace h := e_bind h; obtain ⟨q7, e8, h⟩ := h
      refine w_callS1 (M2 := m_X12_in) (av := [.long (p3.toInt64), .long (0), .long (1)]) (c_X12_in _ _ _ _ _ e8) dX12_feature_35 kd_X12_in wd_11_3 wd_11_4 rfl rfl ⟨Nat.le_of_ble_eq_true rfl, Nat.le_of_ble_eq_true rfl, Nat.le_of_ble_eq_true rfl, Nat.le_of_ble_eq_true rfl⟩ (Nat.le_of_ble_eq_true rfl) ?_
      refine w_if_ne 44 dX12_feature_38 (by decide) (fun c9 => ?_) (fun c9 => ?_)
      · replace h := e_f c9 h
        refine w_aload_n 1 ((some (57))) dX12_feature_44 rfl rfl ?_
        refine w_iload 0 dX12_feature_45 rfl ?_
        refine w_iload_n 4 dX12_feature_47 rfl rfl ?_
        refine w_aload_n 1 ((some (57))) dX12_feature_48 rfl rfl ?_
        refine w_get (v := va_rf (some 65)) dX12_feature_49 fl_RX12_31 ⟨rfl, Or.inr ⟨rfl, by decide⟩⟩ (aFv_k rfl) ?_
        refine w_iload 0 dX12_feature_52 rfl ?_
        replace h := e_grd h; obtain ⟨b10, h⟩ := h
        refine w_iaload dX12_feature_54 ⟨rfl, Or.inr ⟨rfl, by decide⟩⟩ b10 ?_
        replace h := e_bind h; obtain ⟨q11, e12, h⟩ := h
        refine w_callV0 (M2 := m_X12_features) (av := [.int (q1.1), .int (p3), .int (gI q7.2 65 q1.1.toNatClampNeg)]) (ci := 12) (c_X12_features _ _ _ _ _ e12) dX12_feature_55 kd_X12_features wd_20_22 wd_20_23 wd_21_0 rfl rfl ⟨rfl, Or.inr ⟨rfl, by decide⟩⟩ rfl ⟨Nat.le_of_ble_eq_true rfl, Nat.le_of_ble_eq_true rfl, Nat.le_of_ble_eq_true rfl, Nat.le_of_ble_eq_true rfl⟩ (Nat.le_of_ble_eq_true rfl) ?_
        refine w_aload_n 1 ((some (57))) dX12_feature_58 rfl rfl ?_
        refine w_get (v := va_rf (some 69)) dX12_feature_59 fl_RX12_56 ⟨rfl, Or.inr ⟨rfl, by decide⟩⟩ (aFv_k rfl) ?_
        refine w_iload_n 3 dX12_feature_62 rfl rfl ?_
        replace h := e_grd h; obtain ⟨b13, h⟩ := h
        refine w_iaload dX12_feature_63 ⟨rfl, Or.inr ⟨rfl, by decide⟩⟩ b13 ?_
        obtain rfl := Option.some.inj h
        exact w_ireturn dX12_feature_64 rfl (Nat.le_of_ble_eq_true rfl) (Nat.le_of_ble_eq_true rfl)
      · replace h := e_t c9 h
        refine w_sub [] rfl ?_
        exact l_X12_feature_41 _ _ h
theorem dX12_profile_0 : decode cX12_profile 0 = .ok (.aload_n 0, 1) := by decide +kernel
theorem dX12_profile_1 : decode cX12_profile 1 = .ok (.iconst 0, 1) := by decide +kernel
theorem dX12_profile_2 : decode cX12_profile 2 = .ok (.putfield 102, 3) := by decide +kernel
theorem dX12_profile_5 : decode cX12_profile 5 = .ok (.aload_n 0, 1) := by decide +kernel
theorem dX12_profile_6 : decode cX12_profile 6 = .ok (.iload_n 1, 1) := by decide +kernel
theorem dX12_profile_7 : decode cX12_profile 7 = .ok (.invokevirtual 138, 3) := by decide +kernel
theorem dX12_profile_10 : decode cX12_profile 10 = .ok (.istore_n 3, 1) := by decide +kernel
theorem dX12_profile_11 : decode cX12_profile 11 = .ok (.iload_n 3, 1) := by decide +kernel
theorem dX12_profile_12 : decode cX12_profile 12 = .ok (.ldc 126, 2) := by decide +kernel
theorem dX12_profile_14 : decode cX12_profile 14 = .ok (.if_icmp .eq 13, 3) := by decide +kernel
theorem dX12_profile_17 : decode cX12_profile 17 = .ok (.iload_n 2, 1) := by decide +kernel
theorem dX12_profile_18 : decode cX12_profile 18 = .ok (.i2l, 1) := by decide +kernel
theorem dX12_profile_19 : decode cX12_profile 19 = .ok (.lconst 0, 1) := by decide +kernel
theorem dX12_profile_20 : decode cX12_profile 20 = .ok (.lconst 1, 1) := by decide +kernel
theorem dX12_profile_21 : decode cX12_profile 21 = .ok (.invokestatic 111, 3) := by decide +kernel
theorem dX12_profile_24 : decode cX12_profile 24 = .ok (.ifCond .ne 8, 3) := by decide +kernel
theorem dX12_profile_27 : decode cX12_profile 27 = .ok (.ldc 121, 2) := by decide +kernel
theorem dX12_profile_29 : decode cX12_profile 29 = .ok (.goto 9, 3) := by decide +kernel
theorem dX12_profile_32 : decode cX12_profile 32 = .ok (.aload_n 0, 1) := by decide +kernel
theorem dX12_profile_33 : decode cX12_profile 33 = .ok (.iload_n 3, 1) := by decide +kernel
theorem dX12_profile_34 : decode cX12_profile 34 = .ok (.iload_n 2, 1) := by decide +kernel
theorem dX12_profile_35 : decode cX12_profile 35 = .ok (.invokevirtual 169, 3) := by decide +kernel
theorem dX12_profile_38 : decode cX12_profile 38 = .ok (.ireturn, 1) := by decide +kernel
theorem kd_X12_profile : aKd m_X12_profile 2 := ⟨wd_22_5, wd_1_5, ⟨by decide +kernel, by decide +kernel, by decide +kernel⟩⟩
set_option maxRecDepth 100000 in
set_option maxHeartbeats 4000000 in
theorem l_X12_profile_38  (t0 : Int32) (σ : aSt) (o : Int32 × aSt) (h : f_X12_profile_38  t0 σ = some o) : AW true m_X12_profile 38 [] [.int (t0)] σ 0 0 (some (.int o.1)) o.2 := by
  unfold f_X12_profile_38 at h
  obtain rfl := Option.some.inj h
  exact w_ireturn dX12_profile_38 rfl (Nat.le_of_ble_eq_true rfl) (Nat.le_of_ble_eq_true rfl)
set_option maxRecDepth 100000 in
set_option maxHeartbeats 4000000 in
theorem l_X12_profile_27   (σ : aSt) (o : Int32 × aSt) (h : f_X12_profile_27   σ = some o) : AW true m_X12_profile 27 [] [] σ 0 0 (some (.int o.1)) o.2 := by
  unfold f_X12_profile_27 at h
  refine w_ldc (v := (-1000001)) dX12_profile_27 wd_10_21 ?_
  refine w_goto 38 dX12_profile_29 (by decide) ?_
  exact l_X12_profile_38 _ _ _ h
set_option maxRecDepth 100000 in
set_option maxHeartbeats 4000000 in
theorem c_X12_profile (p1 : Int32) (p2 : Int32) (σ : aSt) (o : Int32 × aSt) (h : f_X12_profile p1 p2 σ = some o) : AM true m_X12_profile [va_rf (some (57)), .int (p1), .int (p2)] σ (some (.int o.1)) o.2 := by
  refine AM_of2 (lv := [(0, va_rf (some (57))), (1, Value.int (p1)), (2, Value.int (p2))]) (by decide +kernel) rfl (Nat.le_of_ble_eq_true rfl) ?_
  unfold f_X12_profile at h
  refine w_aload_n 0 ((some (57))) dX12_profile_0 rfl rfl ?_
  refine w_iconst (v := 0) dX12_profile_1 (by decide) ?_
  refine w_putI dX12_profile_2 fl_RX12_102 (Or.inl rfl) rfl ⟨rfl, Or.inr ⟨rfl, by decide⟩⟩ ?_
  refine w_aload_n 0 ((some (57))) dX12_profile_5 rfl rfl ?_
  refine w_iload_n 1 dX12_profile_6 rfl rfl ?_
  replace h := e_bind h; obtain ⟨q1, e2, h⟩ := h
  refine w_callV1 (M2 := m_X12_numberOf) (av := [.int (p1)]) (ci := 12) (c_X12_numberOf _ _ _ e2) dX12_profile_7 kd_X12_numberOf wd_15_15 wd_15_16 wd_15_17 rfl rfl ⟨rfl, Or.inr ⟨rfl, by decide⟩⟩ rfl ⟨Nat.le_of_ble_eq_true rfl, Nat.le_of_ble_eq_true rfl, Nat.le_of_ble_eq_true rfl, Nat.le_of_ble_eq_true rfl⟩ (Nat.le_of_ble_eq_true rfl) ?_
  refine w_istore_n dX12_profile_10 rfl (by decide) rfl ?_
  refine w_iload_n 0 dX12_profile_11 rfl rfl ?_
  refine w_ldc (v := (-1000000)) dX12_profile_12 wd_15_11 ?_
  refine w_icmp_eq 27 dX12_profile_14 (by decide) (fun c3 => ?_) (fun c3 => ?_)
  · replace h := e_t c3 h
    refine w_sub [] rfl ?_
    exact l_X12_profile_27 _ _ h
  · replace h := e_f c3 h
    refine w_iload_n 3 dX12_profile_17 rfl rfl ?_
    refine w_i2l dX12_profile_18 ?_
    refine w_lconst (v := 0) dX12_profile_19 (by decide) ?_
    refine w_lconst (v := 1) dX12_profile_20 (by decide) ?_
    replace h := e_bind h; obtain ⟨q4, e5, h⟩ := h
    refine w_callS1 (M2 := m_X12_in) (av := [.long (p2.toInt64), .long (0), .long (1)]) (c_X12_in _ _ _ _ _ e5) dX12_profile_21 kd_X12_in wd_11_3 wd_11_4 rfl rfl ⟨Nat.le_of_ble_eq_true rfl, Nat.le_of_ble_eq_true rfl, Nat.le_of_ble_eq_true rfl, Nat.le_of_ble_eq_true rfl⟩ (Nat.le_of_ble_eq_true rfl) ?_
    refine w_if_ne 32 dX12_profile_24 (by decide) (fun c6 => ?_) (fun c6 => ?_)
    · replace h := e_f c6 h
      refine w_aload_n 1 ((some (57))) dX12_profile_32 rfl rfl ?_
      refine w_iload_n 0 dX12_profile_33 rfl rfl ?_
      refine w_iload_n 3 dX12_profile_34 rfl rfl ?_
      replace h := e_bind h; obtain ⟨q7, e8, h⟩ := h
      refine w_callV1 (M2 := m_X12_profileOf) (av := [.int (q1.1), .int (p2)]) (ci := 12) (c_X12_profileOf _ _ _ _ e8) dX12_profile_35 kd_X12_profileOf wd_21_9 wd_21_10 wd_21_11 rfl rfl ⟨rfl, Or.inr ⟨rfl, by decide⟩⟩ rfl ⟨Nat.le_of_ble_eq_true rfl, Nat.le_of_ble_eq_true rfl, Nat.le_of_ble_eq_true rfl, Nat.le_of_ble_eq_true rfl⟩ (Nat.le_of_ble_eq_true rfl) ?_
      refine w_sub [] rfl ?_
      exact l_X12_profile_38 _ _ _ h
    · replace h := e_t c6 h
      refine w_sub [] rfl ?_
      exact l_X12_profile_27 _ _ h
theorem dX12_feed_0 : decode cX12_feed 0 = .ok (.aload_n 0, 1) := by decide +kernel
theorem dX12_feed_1 : decode cX12_feed 1 = .ok (.iconst 0, 1) := by decide +kernel
theorem dX12_feed_2 : decode cX12_feed 2 = .ok (.putfield 102, 3) := by decide +kernel
theorem dX12_feed_5 : decode cX12_feed 5 = .ok (.iload_n 3, 1) := by decide +kernel
theorem dX12_feed_6 : decode cX12_feed 6 = .ok (.i2l, 1) := by decide +kernel
theorem dX12_feed_7 : decode cX12_feed 7 = .ok (.lconst 1, 1) := by decide +kernel
theorem dX12_feed_8 : decode cX12_feed 8 = .ok (.ldc2_w 181, 3) := by decide +kernel
theorem dX12_feed_11 : decode cX12_feed 11 = .ok (.invokestatic 111, 3) := by decide +kernel
theorem dX12_feed_14 : decode cX12_feed 14 = .ok (.ifCond .ne 6, 3) := by decide +kernel
theorem dX12_feed_17 : decode cX12_feed 17 = .ok (.ldc 121, 2) := by decide +kernel
theorem dX12_feed_19 : decode cX12_feed 19 = .ok (.ireturn, 1) := by decide +kernel
theorem dX12_feed_20 : decode cX12_feed 20 = .ok (.aload_n 0, 1) := by decide +kernel
theorem dX12_feed_21 : decode cX12_feed 21 = .ok (.getfield 183, 3) := by decide +kernel
theorem dX12_feed_24 : decode cX12_feed 24 = .ok (.iload_n 3, 1) := by decide +kernel
theorem dX12_feed_25 : decode cX12_feed 25 = .ok (.iadd, 1) := by decide +kernel
theorem dX12_feed_26 : decode cX12_feed 26 = .ok (.sipush 600, 3) := by decide +kernel
theorem dX12_feed_29 : decode cX12_feed 29 = .ok (.if_icmp .le 6, 3) := by decide +kernel
theorem dX12_feed_32 : decode cX12_feed 32 = .ok (.ldc 142, 2) := by decide +kernel
theorem dX12_feed_34 : decode cX12_feed 34 = .ok (.ireturn, 1) := by decide +kernel
theorem dX12_feed_35 : decode cX12_feed 35 = .ok (.iload_n 3, 1) := by decide +kernel
theorem dX12_feed_36 : decode cX12_feed 36 = .ok (.iconst 1, 1) := by decide +kernel
theorem dX12_feed_37 : decode cX12_feed 37 = .ok (.isub, 1) := by decide +kernel
theorem dX12_feed_38 : decode cX12_feed 38 = .ok (.istore 4, 2) := by decide +kernel
theorem dX12_feed_40 : decode cX12_feed 40 = .ok (.iload 4, 2) := by decide +kernel
theorem dX12_feed_42 : decode cX12_feed 42 = .ok (.ifCond .lt 40, 3) := by decide +kernel
theorem dX12_feed_45 : decode cX12_feed 45 = .ok (.aload_n 0, 1) := by decide +kernel
theorem dX12_feed_46 : decode cX12_feed 46 = .ok (.getfield 80, 3) := by decide +kernel
theorem dX12_feed_49 : decode cX12_feed 49 = .ok (.aload_n 0, 1) := by decide +kernel
theorem dX12_feed_50 : decode cX12_feed 50 = .ok (.getfield 183, 3) := by decide +kernel
theorem dX12_feed_53 : decode cX12_feed 53 = .ok (.lload_n 1, 1) := by decide +kernel
theorem dX12_feed_54 : decode cX12_feed 54 = .ok (.bipush 8, 2) := by decide +kernel
theorem dX12_feed_56 : decode cX12_feed 56 = .ok (.iload 4, 2) := by decide +kernel
theorem dX12_feed_58 : decode cX12_feed 58 = .ok (.imul, 1) := by decide +kernel
theorem dX12_feed_59 : decode cX12_feed 59 = .ok (.lshr, 1) := by decide +kernel
theorem dX12_feed_60 : decode cX12_feed 60 = .ok (.ldc2_w 186, 3) := by decide +kernel
theorem dX12_feed_63 : decode cX12_feed 63 = .ok (.land, 1) := by decide +kernel
theorem dX12_feed_64 : decode cX12_feed 64 = .ok (.l2i, 1) := by decide +kernel
theorem dX12_feed_65 : decode cX12_feed 65 = .ok (.iastore, 1) := by decide +kernel
theorem dX12_feed_66 : decode cX12_feed 66 = .ok (.aload_n 0, 1) := by decide +kernel
theorem dX12_feed_67 : decode cX12_feed 67 = .ok (.dup, 1) := by decide +kernel
theorem dX12_feed_68 : decode cX12_feed 68 = .ok (.getfield 183, 3) := by decide +kernel
theorem dX12_feed_71 : decode cX12_feed 71 = .ok (.iconst 1, 1) := by decide +kernel
theorem dX12_feed_72 : decode cX12_feed 72 = .ok (.iadd, 1) := by decide +kernel
theorem dX12_feed_73 : decode cX12_feed 73 = .ok (.putfield 183, 3) := by decide +kernel
theorem dX12_feed_76 : decode cX12_feed 76 = .ok (.iinc 4 (-1), 3) := by decide +kernel
theorem dX12_feed_79 : decode cX12_feed 79 = .ok (.goto (-39), 3) := by decide +kernel
theorem dX12_feed_82 : decode cX12_feed 82 = .ok (.aload_n 0, 1) := by decide +kernel
theorem dX12_feed_83 : decode cX12_feed 83 = .ok (.getfield 183, 3) := by decide +kernel
theorem dX12_feed_86 : decode cX12_feed 86 = .ok (.ireturn, 1) := by decide +kernel
theorem kd_X12_feed : aKd m_X12_feed 2 := ⟨wd_22_18, wd_1_5, ⟨by decide +kernel, by decide +kernel, by decide +kernel⟩⟩
set_option maxRecDepth 100000 in
set_option maxHeartbeats 4000000 in
theorem l_X12_feed_40_b (rec40 : Int64 → Int32 → aSt → Option (Int32 × aSt)) (hrec40 : ∀ (x1 : Int64) (x4 : Int32) (σ : aSt) (o : Int32 × aSt), rec40 x1 x4 σ = some o → AW true m_X12_feed 40 [(0, va_rf (some (57))), (1, Value.long (x1)), (4, Value.int (x4))] [] σ 0 0 (some (.int o.1)) o.2) (x1 : Int64) (x4 : Int32) (σ : aSt) (o : Int32 × aSt) (h : f_X12_feed_40_b rec40 x1 x4 σ = some o) : AW true m_X12_feed 40 [(0, va_rf (some (57))), (1, Value.long (x1)), (4, Value.int (x4))] [] σ 0 0 (some (.int o.1)) o.2 := by
  unfold f_X12_feed_40_b at h
  refine w_iload 2 dX12_feed_40 rfl ?_
  refine w_if_lt 82 dX12_feed_42 (by decide) (fun c5 => ?_) (fun c5 => ?_)
  · replace h := e_t c5 h
    refine w_aload_n 0 ((some (57))) dX12_feed_82 rfl rfl ?_
    refine w_get dX12_feed_83 fl_RX12_183 ⟨rfl, Or.inr ⟨rfl, by decide⟩⟩ (aFv_i rfl) ?_
    obtain rfl := Option.some.inj h
    exact w_ireturn dX12_feed_86 rfl (Nat.le_of_ble_eq_true rfl) (Nat.le_of_ble_eq_true rfl)
  · replace h := e_f c5 h
    refine w_aload_n 0 ((some (57))) dX12_feed_45 rfl rfl ?_
    refine w_get (v := va_rf (some 77)) dX12_feed_46 fl_RX12_80 ⟨rfl, Or.inr ⟨rfl, by decide⟩⟩ (aFv_k rfl) ?_
    refine w_aload_n 0 ((some (57))) dX12_feed_49 rfl rfl ?_
    refine w_get dX12_feed_50 fl_RX12_183 ⟨rfl, Or.inr ⟨rfl, by decide⟩⟩ (aFv_i rfl) ?_
    refine w_lload_n 1 dX12_feed_53 rfl rfl ?_
    refine w_bipush (v := 8) dX12_feed_54 (by decide) ?_
    refine w_iload 2 dX12_feed_56 rfl ?_
    refine w_imul dX12_feed_58 ?_
    refine w_lshr dX12_feed_59 ?_
    refine w_ldc2 (v := 255) dX12_feed_60 wd_22_21 ?_
    refine w_land dX12_feed_63 ?_
    refine w_l2i dX12_feed_64 ?_
    replace h := e_grd h; obtain ⟨b6, h⟩ := h
    refine w_iastore dX12_feed_65 ⟨rfl, Or.inr ⟨rfl, by decide⟩⟩ b6 ?_
    refine w_aload_n 0 ((some (57))) dX12_feed_66 rfl rfl ?_
    refine w_dup dX12_feed_67 (aRf_cat _) ?_
    refine w_get dX12_feed_68 fl_RX12_183 ⟨rfl, Or.inr ⟨rfl, by decide⟩⟩ (aFv_i rfl) ?_
    refine w_iconst (v := 1) dX12_feed_71 (by decide) ?_
    refine w_iadd dX12_feed_72 ?_
    refine w_putI dX12_feed_73 fl_RX12_183 (Or.inl rfl) rfl ⟨rfl, Or.inr ⟨rfl, by decide⟩⟩ ?_
    refine w_iinc (q := 2) (v := x4 + (-1)) dX12_feed_76 rfl rfl (by decide) rfl ?_
    refine w_goto 40 dX12_feed_79 (by decide) ?_
    refine w_sub [1, 2, 0] rfl ?_
    exact hrec40 _ _ _ _ h
theorem l_X12_feed_40  : ∀ (n : Nat) (x1 : Int64) (x4 : Int32) (σ : aSt) (o : Int32 × aSt), f_X12_feed_40  n x1 x4 σ = some o → AW true m_X12_feed 40 [(0, va_rf (some (57))), (1, Value.long (x1)), (4, Value.int (x4))] [] σ 0 0 (some (.int o.1)) o.2
  | 0 => fun x1 x4 σ o h => by cases h
  | n + 1 => fun x1 x4 σ o h => l_X12_feed_40_b (f_X12_feed_40  n) (l_X12_feed_40  n) x1 x4 σ o h
set_option maxRecDepth 100000 in
set_option maxHeartbeats 4000000 in
theorem c_X12_feed (p1 : Int64) (p3 : Int32) (σ : aSt) (o : Int32 × aSt) (h : f_X12_feed p1 p3 σ = some o) : AM true m_X12_feed [va_rf (some (57)), .long (p1), .int (p3)] σ (some (.int o.1)) o.2 := by
  refine AM_of2 (lv := [(0, va_rf (some (57))), (1, Value.long (p1)), (3, Value.int (p3))]) (by decide +kernel) rfl (Nat.le_of_ble_eq_true rfl) ?_
  unfold f_X12_feed at h
  refine w_aload_n 0 ((some (57))) dX12_feed_0 rfl rfl ?_
  refine w_iconst (v := 0) dX12_feed_1 (by decide) ?_
  refine w_putI dX12_feed_2 fl_RX12_102 (Or.inl rfl) rfl ⟨rfl, Or.inr ⟨rfl, by decide⟩⟩ ?_
  refine w_iload_n 2 dX12_feed_5 rfl rfl ?_
  refine w_i2l dX12_feed_6 ?_
  refine w_lconst (v := 1) dX12_feed_7 (by decide) ?_
  refine w_ldc2 (v := 8) dX12_feed_8 wd_22_19 ?_
  replace h := e_bind h; obtain ⟨q1, e2, h⟩ := h
  refine w_callS1 (M2 := m_X12_in) (av := [.long (p3.toInt64), .long (1), .long (8)]) (c_X12_in _ _ _ _ _ e2) dX12_feed_11 kd_X12_in wd_11_3 wd_11_4 rfl rfl ⟨Nat.le_of_ble_eq_true rfl, Nat.le_of_ble_eq_true rfl, Nat.le_of_ble_eq_true rfl, Nat.le_of_ble_eq_true rfl⟩ (Nat.le_of_ble_eq_true rfl) ?_
  refine w_if_ne 20 dX12_feed_14 (by decide) (fun c3 => ?_) (fun c3 => ?_)
  · replace h := e_f c3 h
    refine w_aload_n 0 ((some (57))) dX12_feed_20 rfl rfl ?_
    refine w_get dX12_feed_21 fl_RX12_183 ⟨rfl, Or.inr ⟨rfl, by decide⟩⟩ (aFv_i rfl) ?_
    refine w_iload_n 2 dX12_feed_24 rfl rfl ?_
    refine w_iadd dX12_feed_25 ?_
    refine w_sipush (v := 600) dX12_feed_26 (by decide) ?_
    refine w_icmp_le 35 dX12_feed_29 (by decide) (fun c4 => ?_) (fun c4 => ?_)
    · replace h := e_t c4 h
      refine w_iload_n 2 dX12_feed_35 rfl rfl ?_
      refine w_iconst (v := 1) dX12_feed_36 (by decide) ?_
      refine w_isub dX12_feed_37 ?_
      refine w_istore dX12_feed_38 (by decide) rfl ?_
      refine w_sub [1, 2, 0] rfl ?_
      exact l_X12_feed_40 aN _ _ _ _ h
    · replace h := e_f c4 h
      refine w_ldc (v := (-1000003)) dX12_feed_32 wd_15_14 ?_
      obtain rfl := Option.some.inj h
      exact w_ireturn dX12_feed_34 rfl (Nat.le_of_ble_eq_true rfl) (Nat.le_of_ble_eq_true rfl)
  · replace h := e_t c3 h
    refine w_ldc (v := (-1000001)) dX12_feed_17 wd_10_21 ?_
    obtain rfl := Option.some.inj h
    exact w_ireturn dX12_feed_19 rfl (Nat.le_of_ble_eq_true rfl) (Nat.le_of_ble_eq_true rfl)
theorem dX12_byteAt_0 : decode cX12_byteAt 0 = .ok (.iload_n 1, 1) := by decide +kernel
theorem dX12_byteAt_1 : decode cX12_byteAt 1 = .ok (.aload_n 0, 1) := by decide +kernel
theorem dX12_byteAt_2 : decode cX12_byteAt 2 = .ok (.getfield 188, 3) := by decide +kernel
theorem dX12_byteAt_5 : decode cX12_byteAt 5 = .ok (.if_icmp .ge 12, 3) := by decide +kernel
theorem dX12_byteAt_8 : decode cX12_byteAt 8 = .ok (.aload_n 0, 1) := by decide +kernel
theorem dX12_byteAt_9 : decode cX12_byteAt 9 = .ok (.getfield 80, 3) := by decide +kernel
theorem dX12_byteAt_12 : decode cX12_byteAt 12 = .ok (.iload_n 1, 1) := by decide +kernel
theorem dX12_byteAt_13 : decode cX12_byteAt 13 = .ok (.iaload, 1) := by decide +kernel
theorem dX12_byteAt_14 : decode cX12_byteAt 14 = .ok (.goto 5, 3) := by decide +kernel
theorem dX12_byteAt_17 : decode cX12_byteAt 17 = .ok (.ldc 126, 2) := by decide +kernel
theorem dX12_byteAt_19 : decode cX12_byteAt 19 = .ok (.ireturn, 1) := by decide +kernel
theorem kd_X12_byteAt : aKd m_X12_byteAt 1 := ⟨wd_30_12, wd_1_5, ⟨by decide +kernel, by decide +kernel, by decide +kernel⟩⟩
set_option maxRecDepth 100000 in
set_option maxHeartbeats 4000000 in
theorem l_X12_byteAt_19  (t0 : Int32) (σ : aSt) (o : Int32 × aSt) (h : f_X12_byteAt_19  t0 σ = some o) : AW true m_X12_byteAt 19 [] [.int (t0)] σ 0 0 (some (.int o.1)) o.2 := by
  unfold f_X12_byteAt_19 at h
  obtain rfl := Option.some.inj h
  exact w_ireturn dX12_byteAt_19 rfl (Nat.le_of_ble_eq_true rfl) (Nat.le_of_ble_eq_true rfl)
set_option maxRecDepth 100000 in
set_option maxHeartbeats 4000000 in
theorem c_X12_byteAt (p1 : Int32) (σ : aSt) (o : Int32 × aSt) (h : f_X12_byteAt p1 σ = some o) : AM true m_X12_byteAt [va_rf (some (57)), .int (p1)] σ (some (.int o.1)) o.2 := by
  refine AM_of2 (lv := [(0, va_rf (some (57))), (1, Value.int (p1))]) (by decide +kernel) rfl (Nat.le_of_ble_eq_true rfl) ?_
  unfold f_X12_byteAt at h
  refine w_iload_n 1 dX12_byteAt_0 rfl rfl ?_
  refine w_aload_n 0 ((some (57))) dX12_byteAt_1 rfl rfl ?_
  refine w_get dX12_byteAt_2 fl_RX12_188 ⟨rfl, Or.inr ⟨rfl, by decide⟩⟩ (aFv_i rfl) ?_
  refine w_icmp_ge 17 dX12_byteAt_5 (by decide) (fun c1 => ?_) (fun c1 => ?_)
  · replace h := e_t c1 h
    refine w_ldc (v := (-1000000)) dX12_byteAt_17 wd_15_11 ?_
    refine w_sub [] rfl ?_
    exact l_X12_byteAt_19 _ _ _ h
  · replace h := e_f c1 h
    refine w_aload_n 0 ((some (57))) dX12_byteAt_8 rfl rfl ?_
    refine w_get (v := va_rf (some 77)) dX12_byteAt_9 fl_RX12_80 ⟨rfl, Or.inr ⟨rfl, by decide⟩⟩ (aFv_k rfl) ?_
    refine w_iload_n 1 dX12_byteAt_12 rfl rfl ?_
    replace h := e_grd h; obtain ⟨b2, h⟩ := h
    refine w_iaload dX12_byteAt_13 ⟨rfl, Or.inr ⟨rfl, by decide⟩⟩ b2 ?_
    refine w_goto 19 dX12_byteAt_14 (by decide) ?_
    refine w_sub [] rfl ?_
    exact l_X12_byteAt_19 _ _ _ h
theorem dX12_isLetter_0 : decode cX12_isLetter 0 = .ok (.iload_n 0, 1) := by decide +kernel
theorem dX12_isLetter_1 : decode cX12_isLetter 1 = .ok (.bipush 97, 2) := by decide +kernel
theorem dX12_isLetter_3 : decode cX12_isLetter 3 = .ok (.if_icmp .lt 13, 3) := by decide +kernel
theorem dX12_isLetter_6 : decode cX12_isLetter 6 = .ok (.iload_n 0, 1) := by decide +kernel
theorem dX12_isLetter_7 : decode cX12_isLetter 7 = .ok (.bipush 122, 2) := by decide +kernel
theorem dX12_isLetter_9 : decode cX12_isLetter 9 = .ok (.if_icmp .gt 7, 3) := by decide +kernel
theorem dX12_isLetter_12 : decode cX12_isLetter 12 = .ok (.iconst 1, 1) := by decide +kernel
theorem dX12_isLetter_13 : decode cX12_isLetter 13 = .ok (.goto 4, 3) := by decide +kernel
theorem dX12_isLetter_16 : decode cX12_isLetter 16 = .ok (.iconst 0, 1) := by decide +kernel
theorem dX12_isLetter_17 : decode cX12_isLetter 17 = .ok (.ireturn, 1) := by decide +kernel
theorem kd_X12_isLetter : aKd m_X12_isLetter 1 := ⟨wd_30_15, wd_1_5, ⟨by decide +kernel, by decide +kernel, by decide +kernel⟩⟩
set_option maxRecDepth 100000 in
set_option maxHeartbeats 4000000 in
theorem l_X12_isLetter_17  (t0 : Int32) (σ : aSt) (o : Int32 × aSt) (h : f_X12_isLetter_17  t0 σ = some o) : AW true m_X12_isLetter 17 [] [.int (t0)] σ 0 0 (some (.int o.1)) o.2 := by
  unfold f_X12_isLetter_17 at h
  replace h := e_grd h; obtain ⟨g3, h⟩ := h
  obtain rfl := Option.some.inj h
  exact w_zreturn dX12_isLetter_17 rfl (e_nz g3) (Nat.le_of_ble_eq_true rfl) (Nat.le_of_ble_eq_true rfl)
set_option maxRecDepth 100000 in
set_option maxHeartbeats 4000000 in
theorem l_X12_isLetter_16   (σ : aSt) (o : Int32 × aSt) (h : f_X12_isLetter_16   σ = some o) : AW true m_X12_isLetter 16 [] [] σ 0 0 (some (.int o.1)) o.2 := by
  unfold f_X12_isLetter_16 at h
  refine w_iconst (v := 0) dX12_isLetter_16 (by decide) ?_
  exact l_X12_isLetter_17 _ _ _ h
set_option maxRecDepth 100000 in
set_option maxHeartbeats 4000000 in
theorem c_X12_isLetter (p0 : Int32) (σ : aSt) (o : Int32 × aSt) (h : f_X12_isLetter p0 σ = some o) : AM true m_X12_isLetter [.int (p0)] σ (some (.int o.1)) o.2 := by
  refine AM_of2 (lv := [(0, Value.int (p0))]) (by decide +kernel) rfl (Nat.le_of_ble_eq_true rfl) ?_
  unfold f_X12_isLetter at h
  refine w_iload_n 0 dX12_isLetter_0 rfl rfl ?_
  refine w_bipush (v := 97) dX12_isLetter_1 (by decide) ?_
  refine w_icmp_lt 16 dX12_isLetter_3 (by decide) (fun c1 => ?_) (fun c1 => ?_)
  · replace h := e_t c1 h
    refine w_sub [] rfl ?_
    exact l_X12_isLetter_16 _ _ h
  · replace h := e_f c1 h
    refine w_iload_n 0 dX12_isLetter_6 rfl rfl ?_
    refine w_bipush (v := 122) dX12_isLetter_7 (by decide) ?_
    refine w_icmp_gt 16 dX12_isLetter_9 (by decide) (fun c2 => ?_) (fun c2 => ?_)
    · replace h := e_t c2 h
      refine w_sub [] rfl ?_
      exact l_X12_isLetter_16 _ _ h
    · replace h := e_f c2 h
      refine w_iconst (v := 1) dX12_isLetter_12 (by decide) ?_
      refine w_goto 17 dX12_isLetter_13 (by decide) ?_
      refine w_sub [] rfl ?_
      exact l_X12_isLetter_17 _ _ _ h
theorem dX12_isFigure_0 : decode cX12_isFigure 0 = .ok (.iload_n 0, 1) := by decide +kernel
theorem dX12_isFigure_1 : decode cX12_isFigure 1 = .ok (.bipush 48, 2) := by decide +kernel
theorem dX12_isFigure_3 : decode cX12_isFigure 3 = .ok (.if_icmp .lt 13, 3) := by decide +kernel
theorem dX12_isFigure_6 : decode cX12_isFigure 6 = .ok (.iload_n 0, 1) := by decide +kernel
theorem dX12_isFigure_7 : decode cX12_isFigure 7 = .ok (.bipush 57, 2) := by decide +kernel
theorem dX12_isFigure_9 : decode cX12_isFigure 9 = .ok (.if_icmp .gt 7, 3) := by decide +kernel
theorem dX12_isFigure_12 : decode cX12_isFigure 12 = .ok (.iconst 1, 1) := by decide +kernel
theorem dX12_isFigure_13 : decode cX12_isFigure 13 = .ok (.goto 4, 3) := by decide +kernel
theorem dX12_isFigure_16 : decode cX12_isFigure 16 = .ok (.iconst 0, 1) := by decide +kernel
theorem dX12_isFigure_17 : decode cX12_isFigure 17 = .ok (.ireturn, 1) := by decide +kernel
theorem kd_X12_isFigure : aKd m_X12_isFigure 1 := ⟨wd_30_18, wd_1_5, ⟨by decide +kernel, by decide +kernel, by decide +kernel⟩⟩
set_option maxRecDepth 100000 in
set_option maxHeartbeats 4000000 in
theorem l_X12_isFigure_17  (t0 : Int32) (σ : aSt) (o : Int32 × aSt) (h : f_X12_isFigure_17  t0 σ = some o) : AW true m_X12_isFigure 17 [] [.int (t0)] σ 0 0 (some (.int o.1)) o.2 := by
  unfold f_X12_isFigure_17 at h
  replace h := e_grd h; obtain ⟨g3, h⟩ := h
  obtain rfl := Option.some.inj h
  exact w_zreturn dX12_isFigure_17 rfl (e_nz g3) (Nat.le_of_ble_eq_true rfl) (Nat.le_of_ble_eq_true rfl)
set_option maxRecDepth 100000 in
set_option maxHeartbeats 4000000 in
theorem l_X12_isFigure_16   (σ : aSt) (o : Int32 × aSt) (h : f_X12_isFigure_16   σ = some o) : AW true m_X12_isFigure 16 [] [] σ 0 0 (some (.int o.1)) o.2 := by
  unfold f_X12_isFigure_16 at h
  refine w_iconst (v := 0) dX12_isFigure_16 (by decide) ?_
  exact l_X12_isFigure_17 _ _ _ h
set_option maxRecDepth 100000 in
set_option maxHeartbeats 4000000 in
theorem c_X12_isFigure (p0 : Int32) (σ : aSt) (o : Int32 × aSt) (h : f_X12_isFigure p0 σ = some o) : AM true m_X12_isFigure [.int (p0)] σ (some (.int o.1)) o.2 := by
  refine AM_of2 (lv := [(0, Value.int (p0))]) (by decide +kernel) rfl (Nat.le_of_ble_eq_true rfl) ?_
  unfold f_X12_isFigure at h
  refine w_iload_n 0 dX12_isFigure_0 rfl rfl ?_
  refine w_bipush (v := 48) dX12_isFigure_1 (by decide) ?_
  refine w_icmp_lt 16 dX12_isFigure_3 (by decide) (fun c1 => ?_) (fun c1 => ?_)
  · replace h := e_t c1 h
    refine w_sub [] rfl ?_
    exact l_X12_isFigure_16 _ _ h
  · replace h := e_f c1 h
    refine w_iload_n 0 dX12_isFigure_6 rfl rfl ?_
    refine w_bipush (v := 57) dX12_isFigure_7 (by decide) ?_
    refine w_icmp_gt 16 dX12_isFigure_9 (by decide) (fun c2 => ?_) (fun c2 => ?_)
    · replace h := e_t c2 h
      refine w_sub [] rfl ?_
      exact l_X12_isFigure_16 _ _ h
    · replace h := e_f c2 h
      refine w_iconst (v := 1) dX12_isFigure_12 (by decide) ?_
      refine w_goto 17 dX12_isFigure_13 (by decide) ?_
      refine w_sub [] rfl ?_
      exact l_X12_isFigure_17 _ _ _ h
theorem dX12_step_0 : decode cX12_step 0 = .ok (.aload_n 0, 1) := by decide +kernel
theorem dX12_step_1 : decode cX12_step 1 = .ok (.aload_n 0, 1) := by decide +kernel
theorem dX12_step_2 : decode cX12_step 2 = .ok (.getfield 191, 3) := by decide +kernel
theorem dX12_step_5 : decode cX12_step 5 = .ok (.invokevirtual 194, 3) := by decide +kernel
theorem dX12_step_8 : decode cX12_step 8 = .ok (.bipush 32, 2) := by decide +kernel
theorem dX12_step_10 : decode cX12_step 10 = .ok (.if_icmp .eq 16, 3) := by decide +kernel
theorem dX12_step_13 : decode cX12_step 13 = .ok (.aload_n 0, 1) := by decide +kernel
theorem dX12_step_14 : decode cX12_step 14 = .ok (.aload_n 0, 1) := by decide +kernel
theorem dX12_step_15 : decode cX12_step 15 = .ok (.getfield 191, 3) := by decide +kernel
theorem dX12_step_18 : decode cX12_step 18 = .ok (.invokevirtual 194, 3) := by decide +kernel
theorem dX12_step_21 : decode cX12_step 21 = .ok (.bipush 10, 2) := by decide +kernel
theorem dX12_step_23 : decode cX12_step 23 = .ok (.if_icmp .ne 16, 3) := by decide +kernel
theorem dX12_step_26 : decode cX12_step 26 = .ok (.aload_n 0, 1) := by decide +kernel
theorem dX12_step_27 : decode cX12_step 27 = .ok (.dup, 1) := by decide +kernel
theorem dX12_step_28 : decode cX12_step 28 = .ok (.getfield 191, 3) := by decide +kernel
theorem dX12_step_31 : decode cX12_step 31 = .ok (.iconst 1, 1) := by decide +kernel
theorem dX12_step_32 : decode cX12_step 32 = .ok (.iadd, 1) := by decide +kernel
theorem dX12_step_33 : decode cX12_step 33 = .ok (.putfield 191, 3) := by decide +kernel
theorem dX12_step_36 : decode cX12_step 36 = .ok (.goto (-36), 3) := by decide +kernel
theorem dX12_step_39 : decode cX12_step 39 = .ok (.aload_n 0, 1) := by decide +kernel
theorem dX12_step_40 : decode cX12_step 40 = .ok (.aload_n 0, 1) := by decide +kernel
theorem dX12_step_41 : decode cX12_step 41 = .ok (.getfield 191, 3) := by decide +kernel
theorem dX12_step_44 : decode cX12_step 44 = .ok (.putfield 197, 3) := by decide +kernel
theorem dX12_step_47 : decode cX12_step 47 = .ok (.aload_n 0, 1) := by decide +kernel
theorem dX12_step_48 : decode cX12_step 48 = .ok (.aload_n 0, 1) := by decide +kernel
theorem dX12_step_49 : decode cX12_step 49 = .ok (.getfield 191, 3) := by decide +kernel
theorem dX12_step_52 : decode cX12_step 52 = .ok (.invokevirtual 194, 3) := by decide +kernel
theorem dX12_step_55 : decode cX12_step 55 = .ok (.istore_n 1, 1) := by decide +kernel
theorem dX12_step_56 : decode cX12_step 56 = .ok (.iload_n 1, 1) := by decide +kernel
theorem dX12_step_57 : decode cX12_step 57 = .ok (.ldc 126, 2) := by decide +kernel
theorem dX12_step_59 : decode cX12_step 59 = .ok (.if_icmp .ne 11, 3) := by decide +kernel
theorem dX12_step_62 : decode cX12_step 62 = .ok (.aload_n 0, 1) := by decide +kernel
theorem dX12_step_63 : decode cX12_step 63 = .ok (.iconst 1, 1) := by decide +kernel
theorem dX12_step_64 : decode cX12_step 64 = .ok (.putfield 200, 3) := by decide +kernel
theorem dX12_step_67 : decode cX12_step 67 = .ok (.goto 166, 3) := by decide +kernel
theorem dX12_step_70 : decode cX12_step 70 = .ok (.iload_n 1, 1) := by decide +kernel
theorem dX12_step_71 : decode cX12_step 71 = .ok (.invokestatic 203, 3) := by decide +kernel
theorem dX12_step_74 : decode cX12_step 74 = .ok (.ifCond .eq 56, 3) := by decide +kernel
theorem dX12_step_77 : decode cX12_step 77 = .ok (.aload_n 0, 1) := by decide +kernel
theorem dX12_step_78 : decode cX12_step 78 = .ok (.aload_n 0, 1) := by decide +kernel
theorem dX12_step_79 : decode cX12_step 79 = .ok (.getfield 191, 3) := by decide +kernel
theorem dX12_step_82 : decode cX12_step 82 = .ok (.invokevirtual 194, 3) := by decide +kernel
theorem dX12_step_85 : decode cX12_step 85 = .ok (.invokestatic 203, 3) := by decide +kernel
theorem dX12_step_88 : decode cX12_step 88 = .ok (.ifCond .eq 16, 3) := by decide +kernel
theorem dX12_step_91 : decode cX12_step 91 = .ok (.aload_n 0, 1) := by decide +kernel
theorem dX12_step_92 : decode cX12_step 92 = .ok (.dup, 1) := by decide +kernel
theorem dX12_step_93 : decode cX12_step 93 = .ok (.getfield 191, 3) := by decide +kernel
theorem dX12_step_96 : decode cX12_step 96 = .ok (.iconst 1, 1) := by decide +kernel
theorem dX12_step_97 : decode cX12_step 97 = .ok (.iadd, 1) := by decide +kernel
theorem dX12_step_98 : decode cX12_step 98 = .ok (.putfield 191, 3) := by decide +kernel
theorem dX12_step_101 : decode cX12_step 101 = .ok (.goto (-24), 3) := by decide +kernel
theorem dX12_step_104 : decode cX12_step 104 = .ok (.aload_n 0, 1) := by decide +kernel
theorem dX12_step_105 : decode cX12_step 105 = .ok (.aload_n 0, 1) := by decide +kernel
theorem dX12_step_106 : decode cX12_step 106 = .ok (.getfield 191, 3) := by decide +kernel
theorem dX12_step_109 : decode cX12_step 109 = .ok (.aload_n 0, 1) := by decide +kernel
theorem dX12_step_110 : decode cX12_step 110 = .ok (.getfield 197, 3) := by decide +kernel
theorem dX12_step_113 : decode cX12_step 113 = .ok (.isub, 1) := by decide +kernel
theorem dX12_step_114 : decode cX12_step 114 = .ok (.bipush 6, 2) := by decide +kernel
theorem dX12_step_116 : decode cX12_step 116 = .ok (.if_icmp .le 7, 3) := by decide +kernel
theorem dX12_step_119 : decode cX12_step 119 = .ok (.iconst 0, 1) := by decide +kernel
theorem dX12_step_120 : decode cX12_step 120 = .ok (.goto 4, 3) := by decide +kernel
theorem dX12_step_123 : decode cX12_step 123 = .ok (.iconst 2, 1) := by decide +kernel
theorem dX12_step_124 : decode cX12_step 124 = .ok (.putfield 200, 3) := by decide +kernel
theorem dX12_step_127 : decode cX12_step 127 = .ok (.goto 106, 3) := by decide +kernel
theorem dX12_step_130 : decode cX12_step 130 = .ok (.iload_n 1, 1) := by decide +kernel
theorem dX12_step_131 : decode cX12_step 131 = .ok (.invokestatic 206, 3) := by decide +kernel
theorem dX12_step_134 : decode cX12_step 134 = .ok (.ifCond .eq 56, 3) := by decide +kernel
theorem dX12_step_137 : decode cX12_step 137 = .ok (.aload_n 0, 1) := by decide +kernel
theorem dX12_step_138 : decode cX12_step 138 = .ok (.aload_n 0, 1) := by decide +kernel
theorem dX12_step_139 : decode cX12_step 139 = .ok (.getfield 191, 3) := by decide +kernel
theorem dX12_step_142 : decode cX12_step 142 = .ok (.invokevirtual 194, 3) := by decide +kernel
theorem dX12_step_145 : decode cX12_step 145 = .ok (.invokestatic 206, 3) := by decide +kernel
theorem dX12_step_148 : decode cX12_step 148 = .ok (.ifCond .eq 16, 3) := by decide +kernel
theorem dX12_step_151 : decode cX12_step 151 = .ok (.aload_n 0, 1) := by decide +kernel
theorem dX12_step_152 : decode cX12_step 152 = .ok (.dup, 1) := by decide +kernel
theorem dX12_step_153 : decode cX12_step 153 = .ok (.getfield 191, 3) := by decide +kernel
theorem dX12_step_156 : decode cX12_step 156 = .ok (.iconst 1, 1) := by decide +kernel
theorem dX12_step_157 : decode cX12_step 157 = .ok (.iadd, 1) := by decide +kernel
theorem dX12_step_158 : decode cX12_step 158 = .ok (.putfield 191, 3) := by decide +kernel
theorem dX12_step_161 : decode cX12_step 161 = .ok (.goto (-24), 3) := by decide +kernel
theorem dX12_step_164 : decode cX12_step 164 = .ok (.aload_n 0, 1) := by decide +kernel
theorem dX12_step_165 : decode cX12_step 165 = .ok (.aload_n 0, 1) := by decide +kernel
theorem dX12_step_166 : decode cX12_step 166 = .ok (.getfield 191, 3) := by decide +kernel
theorem dX12_step_169 : decode cX12_step 169 = .ok (.aload_n 0, 1) := by decide +kernel
theorem dX12_step_170 : decode cX12_step 170 = .ok (.getfield 197, 3) := by decide +kernel
theorem dX12_step_173 : decode cX12_step 173 = .ok (.isub, 1) := by decide +kernel
theorem dX12_step_174 : decode cX12_step 174 = .ok (.bipush 6, 2) := by decide +kernel
theorem dX12_step_176 : decode cX12_step 176 = .ok (.if_icmp .le 7, 3) := by decide +kernel
theorem dX12_step_179 : decode cX12_step 179 = .ok (.iconst 0, 1) := by decide +kernel
theorem dX12_step_180 : decode cX12_step 180 = .ok (.goto 4, 3) := by decide +kernel
theorem dX12_step_183 : decode cX12_step 183 = .ok (.iconst 3, 1) := by decide +kernel
theorem dX12_step_184 : decode cX12_step 184 = .ok (.putfield 200, 3) := by decide +kernel
theorem dX12_step_187 : decode cX12_step 187 = .ok (.goto 46, 3) := by decide +kernel
theorem dX12_step_190 : decode cX12_step 190 = .ok (.aload_n 0, 1) := by decide +kernel
theorem dX12_step_191 : decode cX12_step 191 = .ok (.dup, 1) := by decide +kernel
theorem dX12_step_192 : decode cX12_step 192 = .ok (.getfield 191, 3) := by decide +kernel
theorem dX12_step_195 : decode cX12_step 195 = .ok (.iconst 1, 1) := by decide +kernel
theorem dX12_step_196 : decode cX12_step 196 = .ok (.iadd, 1) := by decide +kernel
theorem dX12_step_197 : decode cX12_step 197 = .ok (.putfield 191, 3) := by decide +kernel
theorem dX12_step_200 : decode cX12_step 200 = .ok (.aload_n 0, 1) := by decide +kernel
theorem dX12_step_201 : decode cX12_step 201 = .ok (.iload_n 1, 1) := by decide +kernel
theorem dX12_step_202 : decode cX12_step 202 = .ok (.bipush 59, 2) := by decide +kernel
theorem dX12_step_204 : decode cX12_step 204 = .ok (.if_icmp .eq 21, 3) := by decide +kernel
theorem dX12_step_207 : decode cX12_step 207 = .ok (.iload_n 1, 1) := by decide +kernel
theorem dX12_step_208 : decode cX12_step 208 = .ok (.bipush 60, 2) := by decide +kernel
theorem dX12_step_210 : decode cX12_step 210 = .ok (.if_icmp .eq 15, 3) := by decide +kernel
theorem dX12_step_213 : decode cX12_step 213 = .ok (.iload_n 1, 1) := by decide +kernel
theorem dX12_step_214 : decode cX12_step 214 = .ok (.bipush 62, 2) := by decide +kernel
theorem dX12_step_216 : decode cX12_step 216 = .ok (.if_icmp .eq 9, 3) := by decide +kernel
theorem dX12_step_219 : decode cX12_step 219 = .ok (.iload_n 1, 1) := by decide +kernel
theorem dX12_step_220 : decode cX12_step 220 = .ok (.bipush 61, 2) := by decide +kernel
theorem dX12_step_222 : decode cX12_step 222 = .ok (.if_icmp .ne 7, 3) := by decide +kernel
theorem dX12_step_225 : decode cX12_step 225 = .ok (.iconst 4, 1) := by decide +kernel
theorem dX12_step_226 : decode cX12_step 226 = .ok (.goto 4, 3) := by decide +kernel
theorem dX12_step_229 : decode cX12_step 229 = .ok (.iconst 0, 1) := by decide +kernel
theorem dX12_step_230 : decode cX12_step 230 = .ok (.putfield 200, 3) := by decide +kernel
theorem dX12_step_233 : decode cX12_step 233 = .ok (.aload_n 0, 1) := by decide +kernel
theorem dX12_step_234 : decode cX12_step 234 = .ok (.aload_n 0, 1) := by decide +kernel
theorem dX12_step_235 : decode cX12_step 235 = .ok (.getfield 191, 3) := by decide +kernel
theorem dX12_step_238 : decode cX12_step 238 = .ok (.putfield 209, 3) := by decide +kernel
theorem dX12_step_241 : decode cX12_step 241 = .ok (.return_, 1) := by decide +kernel
theorem kd_X12_step : aKd m_X12_step 0 := ⟨wd_30_6, wd_1_5, ⟨by decide +kernel, by decide +kernel, by decide +kernel⟩⟩
set_option maxRecDepth 100000 in
set_option maxHeartbeats 4000000 in
theorem l_X12_step_26 (rec0 : aSt → Option (Unit × aSt)) (hrec0 : ∀  (σ : aSt) (o : Unit × aSt), rec0  σ = some o → AW true m_X12_step 0 [(0, va_rf (some (57)))] [] σ 0 0 none o.2)  (σ : aSt) (o : Unit × aSt) (h : f_X12_step_26 rec0  σ = some o) : AW true m_X12_step 26 [(0, va_rf (some (57)))] [] σ 0 0 none o.2 := by
  unfold f_X12_step_26 at h
  refine w_aload_n 0 ((some (57))) dX12_step_26 rfl rfl ?_
  refine w_dup dX12_step_27 (aRf_cat _) ?_
  refine w_get dX12_step_28 fl_RX12_191 ⟨rfl, Or.inr ⟨rfl, by decide⟩⟩ (aFv_i rfl) ?_
  refine w_iconst (v := 1) dX12_step_31 (by decide) ?_
  refine w_iadd dX12_step_32 ?_
  refine w_putI dX12_step_33 fl_RX12_191 (Or.inl rfl) rfl ⟨rfl, Or.inr ⟨rfl, by decide⟩⟩ ?_
  refine w_goto 0 dX12_step_36 (by decide) ?_
  exact hrec0 _ _ h
set_option maxRecDepth 100000 in
set_option maxHeartbeats 4000000 in
theorem l_X12_step_233   (σ : aSt) (o : Unit × aSt) (h : f_X12_step_233   σ = some o) : AW true m_X12_step 233 [(0, va_rf (some (57)))] [] σ 0 0 none o.2 := by
  unfold f_X12_step_233 at h
  refine w_aload_n 0 ((some (57))) dX12_step_233 rfl rfl ?_
  refine w_aload_n 0 ((some (57))) dX12_step_234 rfl rfl ?_
  refine w_get dX12_step_235 fl_RX12_191 ⟨rfl, Or.inr ⟨rfl, by decide⟩⟩ (aFv_i rfl) ?_
  refine w_putI dX12_step_238 fl_RX12_209 (Or.inl rfl) rfl ⟨rfl, Or.inr ⟨rfl, by decide⟩⟩ ?_
  obtain rfl := Option.some.inj h
  exact w_vreturn dX12_step_241 rfl (Nat.le_of_ble_eq_true rfl) (Nat.le_of_ble_eq_true rfl)
set_option maxRecDepth 100000 in
set_option maxHeartbeats 4000000 in
theorem l_X12_step_124  (t1 : Int32) (σ : aSt) (o : Unit × aSt) (h : f_X12_step_124  t1 σ = some o) : AW true m_X12_step 124 [(0, va_rf (some (57)))] [.int (t1), va_rf (some (57))] σ 0 0 none o.2 := by
  unfold f_X12_step_124 at h
  refine w_putI dX12_step_124 fl_RX12_200 (Or.inl rfl) rfl ⟨rfl, Or.inr ⟨rfl, by decide⟩⟩ ?_
  refine w_goto 233 dX12_step_127 (by decide) ?_
  exact l_X12_step_233 _ _ h
set_option maxRecDepth 100000 in
set_option maxHeartbeats 4000000 in
theorem l_X12_step_77_b (rec77 : aSt → Option (Unit × aSt)) (hrec77 : ∀  (σ : aSt) (o : Unit × aSt), rec77  σ = some o → AW true m_X12_step 77 [(0, va_rf (some (57)))] [] σ 0 0 none o.2)  (σ : aSt) (o : Unit × aSt) (h : f_X12_step_77_b rec77  σ = some o) : AW true m_X12_step 77 [(0, va_rf (some (57)))] [] σ 0 0 none o.2 := by
  unfold f_X12_step_77_b at h
  refine w_aload_n 0 ((some (57))) dX12_step_77 rfl rfl ?_
  refine w_aload_n 0 ((some (57))) dX12_step_78 rfl rfl ?_
  refine w_get dX12_step_79 fl_RX12_191 ⟨rfl, Or.inr ⟨rfl, by decide⟩⟩ (aFv_i rfl) ?_
  replace h := e_bind h; obtain ⟨q7, e8, h⟩ := h
  refine w_callV1 (M2 := m_X12_byteAt) (av := [.int (gI σ 57 33)]) (ci := 12) (c_X12_byteAt _ _ _ e8) dX12_step_82 kd_X12_byteAt wd_30_9 wd_30_10 wd_30_11 rfl rfl ⟨rfl, Or.inr ⟨rfl, by decide⟩⟩ rfl ⟨Nat.le_of_ble_eq_true rfl, Nat.le_of_ble_eq_true rfl, Nat.le_of_ble_eq_true rfl, Nat.le_of_ble_eq_true rfl⟩ (Nat.le_of_ble_eq_true rfl) ?_
  replace h := e_bind h; obtain ⟨q9, e10, h⟩ := h
  refine w_callS1 (M2 := m_X12_isLetter) (av := [.int (q7.1)]) (c_X12_isLetter _ _ _ e10) dX12_step_85 kd_X12_isLetter wd_30_13 wd_30_14 rfl rfl ⟨Nat.le_of_ble_eq_true rfl, Nat.le_of_ble_eq_true rfl, Nat.le_of_ble_eq_true rfl, Nat.le_of_ble_eq_true rfl⟩ (Nat.le_of_ble_eq_true rfl) ?_
  refine w_if_eq 104 dX12_step_88 (by decide) (fun c11 => ?_) (fun c11 => ?_)
  · replace h := e_t c11 h
    refine w_aload_n 0 ((some (57))) dX12_step_104 rfl rfl ?_
    refine w_aload_n 0 ((some (57))) dX12_step_105 rfl rfl ?_
    refine w_get dX12_step_106 fl_RX12_191 ⟨rfl, Or.inr ⟨rfl, by decide⟩⟩ (aFv_i rfl) ?_
    refine w_aload_n 0 ((some (57))) dX12_step_109 rfl rfl ?_
    refine w_get dX12_step_110 fl_RX12_197 ⟨rfl, Or.inr ⟨rfl, by decide⟩⟩ (aFv_i rfl) ?_
    refine w_isub dX12_step_113 ?_
    refine w_bipush (v := 6) dX12_step_114 (by decide) ?_
    refine w_icmp_le 123 dX12_step_116 (by decide) (fun c12 => ?_) (fun c12 => ?_)
    · replace h := e_t c12 h
      refine w_iconst (v := 2) dX12_step_123 (by decide) ?_
      exact l_X12_step_124 _ _ _ h
    · replace h := e_f c12 h
      refine w_iconst (v := 0) dX12_step_119 (by decide) ?_
      refine w_goto 124 dX12_step_120 (by decide) ?_
      exact l_X12_step_124 _ _ _ h
  · replace h := e_f c11 h
    refine w_aload_n 0 ((some (57))) dX12_step_91 rfl rfl ?_
    refine w_dup dX12_step_92 (aRf_cat _) ?_
    refine w_get dX12_step_93 fl_RX12_191 ⟨rfl, Or.inr ⟨rfl, by decide⟩⟩ (aFv_i rfl) ?_
    refine w_iconst (v := 1) dX12_step_96 (by decide) ?_
    refine w_iadd dX12_step_97 ?_
    refine w_putI dX12_step_98 fl_RX12_191 (Or.inl rfl) rfl ⟨rfl, Or.inr ⟨rfl, by decide⟩⟩ ?_
    refine w_goto 77 dX12_step_101 (by decide) ?_
    exact hrec77 _ _ h
theorem l_X12_step_77  : ∀ (n : Nat)  (σ : aSt) (o : Unit × aSt), f_X12_step_77  n  σ = some o → AW true m_X12_step 77 [(0, va_rf (some (57)))] [] σ 0 0 none o.2
  | 0 => fun  σ o h => by cases h
  | n + 1 => fun  σ o h => l_X12_step_77_b (f_X12_step_77  n) (l_X12_step_77  n)  σ o h
set_option maxRecDepth 100000 in
set_option maxHeartbeats 4000000 in
theorem l_X12_step_184  (t1 : Int32) (σ : aSt) (o : Unit × aSt) (h : f_X12_step_184  t1 σ = some o) : AW true m_X12_step 184 [(0, va_rf (some (57)))] [.int (t1), va_rf (some (57))] σ 0 0 none o.2 := by
  unfold f_X12_step_184 at h
  refine w_putI dX12_step_184 fl_RX12_200 (Or.inl rfl) rfl ⟨rfl, Or.inr ⟨rfl, by decide⟩⟩ ?_
  refine w_goto 233 dX12_step_187 (by decide) ?_
  exact l_X12_step_233 _ _ h
set_option maxRecDepth 100000 in
set_option maxHeartbeats 4000000 in
theorem l_X12_step_137_b (rec137 : aSt → Option (Unit × aSt)) (hrec137 : ∀  (σ : aSt) (o : Unit × aSt), rec137  σ = some o → AW true m_X12_step 137 [(0, va_rf (some (57)))] [] σ 0 0 none o.2)  (σ : aSt) (o : Unit × aSt) (h : f_X12_step_137_b rec137  σ = some o) : AW true m_X12_step 137 [(0, va_rf (some (57)))] [] σ 0 0 none o.2 := by
  unfold f_X12_step_137_b at h
  refine w_aload_n 0 ((some (57))) dX12_step_137 rfl rfl ?_
  refine w_aload_n 0 ((some (57))) dX12_step_138 rfl rfl ?_
  refine w_get dX12_step_139 fl_RX12_191 ⟨rfl, Or.inr ⟨rfl, by decide⟩⟩ (aFv_i rfl) ?_
  replace h := e_bind h; obtain ⟨q1, e2, h⟩ := h
  refine w_callV1 (M2 := m_X12_byteAt) (av := [.int (gI σ 57 33)]) (ci := 12) (c_X12_byteAt _ _ _ e2) dX12_step_142 kd_X12_byteAt wd_30_9 wd_30_10 wd_30_11 rfl rfl ⟨rfl, Or.inr ⟨rfl, by decide⟩⟩ rfl ⟨Nat.le_of_ble_eq_true rfl, Nat.le_of_ble_eq_true rfl, Nat.le_of_ble_eq_true rfl, Nat.le_of_ble_eq_true rfl⟩ (Nat.le_of_ble_eq_true rfl) ?_
  replace h := e_bind h; obtain ⟨q3, e4, h⟩ := h
  refine w_callS1 (M2 := m_X12_isFigure) (av := [.int (q1.1)]) (c_X12_isFigure _ _ _ e4) dX12_step_145 kd_X12_isFigure wd_30_16 wd_30_17 rfl rfl ⟨Nat.le_of_ble_eq_true rfl, Nat.le_of_ble_eq_true rfl, Nat.le_of_ble_eq_true rfl, Nat.le_of_ble_eq_true rfl⟩ (Nat.le_of_ble_eq_true rfl) ?_
  refine w_if_eq 164 dX12_step_148 (by decide) (fun c5 => ?_) (fun c5 => ?_)
  · replace h := e_t c5 h
    refine w_aload_n 0 ((some (57))) dX12_step_164 rfl rfl ?_
    refine w_aload_n 0 ((some (57))) dX12_step_165 rfl rfl ?_
    refine w_get dX12_step_166 fl_RX12_191 ⟨rfl, Or.inr ⟨rfl, by decide⟩⟩ (aFv_i rfl) ?_
    refine w_aload_n 0 ((some (57))) dX12_step_169 rfl rfl ?_
    refine w_get dX12_step_170 fl_RX12_197 ⟨rfl, Or.inr ⟨rfl, by decide⟩⟩ (aFv_i rfl) ?_
    refine w_isub dX12_step_173 ?_
    refine w_bipush (v := 6) dX12_step_174 (by decide) ?_
    refine w_icmp_le 183 dX12_step_176 (by decide) (fun c6 => ?_) (fun c6 => ?_)
    · replace h := e_t c6 h
      refine w_iconst (v := 3) dX12_step_183 (by decide) ?_
      exact l_X12_step_184 _ _ _ h
    · replace h := e_f c6 h
      refine w_iconst (v := 0) dX12_step_179 (by decide) ?_
      refine w_goto 184 dX12_step_180 (by decide) ?_
      exact l_X12_step_184 _ _ _ h
  · replace h := e_f c5 h
    refine w_aload_n 0 ((some (57))) dX12_step_151 rfl rfl ?_
    refine w_dup dX12_step_152 (aRf_cat _) ?_
    refine w_get dX12_step_153 fl_RX12_191 ⟨rfl, Or.inr ⟨rfl, by decide⟩⟩ (aFv_i rfl) ?_
    refine w_iconst (v := 1) dX12_step_156 (by decide) ?_
    refine w_iadd dX12_step_157 ?_
    refine w_putI dX12_step_158 fl_RX12_191 (Or.inl rfl) rfl ⟨rfl, Or.inr ⟨rfl, by decide⟩⟩ ?_
    refine w_goto 137 dX12_step_161 (by decide) ?_
    exact hrec137 _ _ h
theorem l_X12_step_137  : ∀ (n : Nat)  (σ : aSt) (o : Unit × aSt), f_X12_step_137  n  σ = some o → AW true m_X12_step 137 [(0, va_rf (some (57)))] [] σ 0 0 none o.2
  | 0 => fun  σ o h => by cases h
  | n + 1 => fun  σ o h => l_X12_step_137_b (f_X12_step_137  n) (l_X12_step_137  n)  σ o h
set_option maxRecDepth 100000 in
set_option maxHeartbeats 4000000 in
theorem l_X12_step_230  (t1 : Int32) (σ : aSt) (o : Unit × aSt) (h : f_X12_step_230  t1 σ = some o) : AW true m_X12_step 230 [(0, va_rf (some (57)))] [.int (t1), va_rf (some (57))] σ 0 0 none o.2 := by
  unfold f_X12_step_230 at h
  refine w_putI dX12_step_230 fl_RX12_200 (Or.inl rfl) rfl ⟨rfl, Or.inr ⟨rfl, by decide⟩⟩ ?_
  exact l_X12_step_233 _ _ h
set_option maxRecDepth 100000 in
set_option maxHeartbeats 4000000 in
theorem l_X12_step_225   (σ : aSt) (o : Unit × aSt) (h : f_X12_step_225   σ = some o) : AW true m_X12_step 225 [(0, va_rf (some (57)))] [va_rf (some (57))] σ 0 0 none o.2 := by
  unfold f_X12_step_225 at h
  refine w_iconst (v := 4) dX12_step_225 (by decide) ?_
  refine w_goto 230 dX12_step_226 (by decide) ?_
  exact l_X12_step_230 _ _ _ h
set_option maxRecDepth 100000 in
set_option maxHeartbeats 4000000 in
theorem l_X12_step_0_b (rec0 : aSt → Option (Unit × aSt)) (hrec0 : ∀  (σ : aSt) (o : Unit × aSt), rec0  σ = some o → AW true m_X12_step 0 [(0, va_rf (some (57)))] [] σ 0 0 none o.2)  (σ : aSt) (o : Unit × aSt) (h : f_X12_step_0_b rec0  σ = some o) : AW true m_X12_step 0 [(0, va_rf (some (57)))] [] σ 0 0 none o.2 := by
  unfold f_X12_step_0_b at h
  refine w_aload_n 0 ((some (57))) dX12_step_0 rfl rfl ?_
  refine w_aload_n 0 ((some (57))) dX12_step_1 rfl rfl ?_
  refine w_get dX12_step_2 fl_RX12_191 ⟨rfl, Or.inr ⟨rfl, by decide⟩⟩ (aFv_i rfl) ?_
  replace h := e_bind h; obtain ⟨q13, e14, h⟩ := h
  refine w_callV1 (M2 := m_X12_byteAt) (av := [.int (gI σ 57 33)]) (ci := 12) (c_X12_byteAt _ _ _ e14) dX12_step_5 kd_X12_byteAt wd_30_9 wd_30_10 wd_30_11 rfl rfl ⟨rfl, Or.inr ⟨rfl, by decide⟩⟩ rfl ⟨Nat.le_of_ble_eq_true rfl, Nat.le_of_ble_eq_true rfl, Nat.le_of_ble_eq_true rfl, Nat.le_of_ble_eq_true rfl⟩ (Nat.le_of_ble_eq_true rfl) ?_
  refine w_bipush (v := 32) dX12_step_8 (by decide) ?_
  refine w_icmp_eq 26 dX12_step_10 (by decide) (fun c15 => ?_) (fun c15 => ?_)
  · replace h := e_t c15 h
    exact l_X12_step_26 rec0 hrec0 _ _ h
  · replace h := e_f c15 h
    refine w_aload_n 0 ((some (57))) dX12_step_13 rfl rfl ?_
    refine w_aload_n 0 ((some (57))) dX12_step_14 rfl rfl ?_
    refine w_get dX12_step_15 fl_RX12_191 ⟨rfl, Or.inr ⟨rfl, by decide⟩⟩ (aFv_i rfl) ?_
    replace h := e_bind h; obtain ⟨q16, e17, h⟩ := h
    refine w_callV1 (M2 := m_X12_byteAt) (av := [.int (gI q13.2 57 33)]) (ci := 12) (c_X12_byteAt _ _ _ e17) dX12_step_18 kd_X12_byteAt wd_30_9 wd_30_10 wd_30_11 rfl rfl ⟨rfl, Or.inr ⟨rfl, by decide⟩⟩ rfl ⟨Nat.le_of_ble_eq_true rfl, Nat.le_of_ble_eq_true rfl, Nat.le_of_ble_eq_true rfl, Nat.le_of_ble_eq_true rfl⟩ (Nat.le_of_ble_eq_true rfl) ?_
    refine w_bipush (v := 10) dX12_step_21 (by decide) ?_
    refine w_icmp_ne 39 dX12_step_23 (by decide) (fun c18 => ?_) (fun c18 => ?_)
    · replace h := e_f c18 h
      refine w_aload_n 0 ((some (57))) dX12_step_39 rfl rfl ?_
      refine w_aload_n 0 ((some (57))) dX12_step_40 rfl rfl ?_
      refine w_get dX12_step_41 fl_RX12_191 ⟨rfl, Or.inr ⟨rfl, by decide⟩⟩ (aFv_i rfl) ?_
      refine w_putI dX12_step_44 fl_RX12_197 (Or.inl rfl) rfl ⟨rfl, Or.inr ⟨rfl, by decide⟩⟩ ?_
      refine w_aload_n 0 ((some (57))) dX12_step_47 rfl rfl ?_
      refine w_aload_n 0 ((some (57))) dX12_step_48 rfl rfl ?_
      refine w_get dX12_step_49 fl_RX12_191 ⟨rfl, Or.inr ⟨rfl, by decide⟩⟩ (aFv_i rfl) ?_
      replace h := e_bind h; obtain ⟨q19, e20, h⟩ := h
      refine w_callV1 (M2 := m_X12_byteAt) (av := [.int (gI (sI q16.2 57 35 (gI q16.2 57 33)) 57 33)]) (ci := 12) (c_X12_byteAt _ _ _ e20) dX12_step_52 kd_X12_byteAt wd_30_9 wd_30_10 wd_30_11 rfl rfl ⟨rfl, Or.inr ⟨rfl, by decide⟩⟩ rfl ⟨Nat.le_of_ble_eq_true rfl, Nat.le_of_ble_eq_true rfl, Nat.le_of_ble_eq_true rfl, Nat.le_of_ble_eq_true rfl⟩ (Nat.le_of_ble_eq_true rfl) ?_
      refine w_istore_n dX12_step_55 rfl (by decide) rfl ?_
      refine w_iload_n 0 dX12_step_56 rfl rfl ?_
      refine w_ldc (v := (-1000000)) dX12_step_57 wd_15_11 ?_
      refine w_icmp_ne 70 dX12_step_59 (by decide) (fun c21 => ?_) (fun c21 => ?_)
      · replace h := e_f c21 h
        refine w_iload_n 0 dX12_step_70 rfl rfl ?_
        replace h := e_bind h; obtain ⟨q22, e23, h⟩ := h
        refine w_callS1 (M2 := m_X12_isLetter) (av := [.int (q19.1)]) (c_X12_isLetter _ _ _ e23) dX12_step_71 kd_X12_isLetter wd_30_13 wd_30_14 rfl rfl ⟨Nat.le_of_ble_eq_true rfl, Nat.le_of_ble_eq_true rfl, Nat.le_of_ble_eq_true rfl, Nat.le_of_ble_eq_true rfl⟩ (Nat.le_of_ble_eq_true rfl) ?_
        refine w_if_eq 130 dX12_step_74 (by decide) (fun c24 => ?_) (fun c24 => ?_)
        · replace h := e_t c24 h
          refine w_iload_n 0 dX12_step_130 rfl rfl ?_
          replace h := e_bind h; obtain ⟨q25, e26, h⟩ := h
          refine w_callS1 (M2 := m_X12_isFigure) (av := [.int (q19.1)]) (c_X12_isFigure _ _ _ e26) dX12_step_131 kd_X12_isFigure wd_30_16 wd_30_17 rfl rfl ⟨Nat.le_of_ble_eq_true rfl, Nat.le_of_ble_eq_true rfl, Nat.le_of_ble_eq_true rfl, Nat.le_of_ble_eq_true rfl⟩ (Nat.le_of_ble_eq_true rfl) ?_
          refine w_if_eq 190 dX12_step_134 (by decide) (fun c27 => ?_) (fun c27 => ?_)
          · replace h := e_t c27 h
            refine w_aload_n 1 ((some (57))) dX12_step_190 rfl rfl ?_
            refine w_dup dX12_step_191 (aRf_cat _) ?_
            refine w_get dX12_step_192 fl_RX12_191 ⟨rfl, Or.inr ⟨rfl, by decide⟩⟩ (aFv_i rfl) ?_
            refine w_iconst (v := 1) dX12_step_195 (by decide) ?_
            refine w_iadd dX12_step_196 ?_
            refine w_putI dX12_step_197 fl_RX12_191 (Or.inl rfl) rfl ⟨rfl, Or.inr ⟨rfl, by decide⟩⟩ ?_
            refine w_aload_n 1 ((some (57))) dX12_step_200 rfl rfl ?_
            refine w_iload_n 0 dX12_step_201 rfl rfl ?_
            refine w_bipush (v := 59) dX12_step_202 (by decide) ?_
            refine w_icmp_eq 225 dX12_step_204 (by decide) (fun c28 => ?_) (fun c28 => ?_)
            · replace h := e_t c28 h
              refine w_sub [1] rfl ?_
              exact l_X12_step_225 _ _ h
            · replace h := e_f c28 h
              refine w_iload_n 0 dX12_step_207 rfl rfl ?_
              refine w_bipush (v := 60) dX12_step_208 (by decide) ?_
              refine w_icmp_eq 225 dX12_step_210 (by decide) (fun c29 => ?_) (fun c29 => ?_)
              · replace h := e_t c29 h
                refine w_sub [1] rfl ?_
                exact l_X12_step_225 _ _ h
              · replace h := e_f c29 h
                refine w_iload_n 0 dX12_step_213 rfl rfl ?_
                refine w_bipush (v := 62) dX12_step_214 (by decide) ?_
                refine w_icmp_eq 225 dX12_step_216 (by decide) (fun c30 => ?_) (fun c30 => ?_)
                · replace h := e_t c30 h
                  refine w_sub [1] rfl ?_
                  exact l_X12_step_225 _ _ h
                · replace h := e_f c30 h
                  refine w_iload_n 0 dX12_step_219 rfl rfl ?_
                  refine w_bipush (v := 61) dX12_step_220 (by decide) ?_
                  refine w_icmp_ne 229 dX12_step_222 (by decide) (fun c31 => ?_) (fun c31 => ?_)
                  · replace h := e_f c31 h
                    refine w_iconst (v := 0) dX12_step_229 (by decide) ?_
                    refine w_sub [1] rfl ?_
                    exact l_X12_step_230 _ _ _ h
                  · replace h := e_t c31 h
                    refine w_sub [1] rfl ?_
                    exact l_X12_step_225 _ _ h
          · replace h := e_f c27 h
            refine w_sub [1] rfl ?_
            exact l_X12_step_137 aN _ _ h
        · replace h := e_f c24 h
          refine w_sub [1] rfl ?_
          exact l_X12_step_77 aN _ _ h
      · replace h := e_t c21 h
        refine w_aload_n 1 ((some (57))) dX12_step_62 rfl rfl ?_
        refine w_iconst (v := 1) dX12_step_63 (by decide) ?_
        refine w_putI dX12_step_64 fl_RX12_200 (Or.inl rfl) rfl ⟨rfl, Or.inr ⟨rfl, by decide⟩⟩ ?_
        refine w_goto 233 dX12_step_67 (by decide) ?_
        refine w_sub [1] rfl ?_
        exact l_X12_step_233 _ _ h
    · replace h := e_t c18 h
      exact l_X12_step_26 rec0 hrec0 _ _ h
theorem l_X12_step_0  : ∀ (n : Nat)  (σ : aSt) (o : Unit × aSt), f_X12_step_0  n  σ = some o → AW true m_X12_step 0 [(0, va_rf (some (57)))] [] σ 0 0 none o.2
  | 0 => fun  σ o h => by cases h
  | n + 1 => fun  σ o h => l_X12_step_0_b (f_X12_step_0  n) (l_X12_step_0  n)  σ o h
set_option maxRecDepth 100000 in
set_option maxHeartbeats 4000000 in
theorem c_X12_step  (σ : aSt) (o : Unit × aSt) (h : f_X12_step  σ = some o) : AM true m_X12_step [va_rf (some (57))] σ none o.2 := by
  refine AM_of2 (lv := [(0, va_rf (some (57)))]) (by decide +kernel) rfl (Nat.le_of_ble_eq_true rfl) ?_
  unfold f_X12_step at h
  exact l_X12_step_0 aN _ _ h
theorem dX12_word_0 : decode cX12_word 0 = .ok (.lconst 0, 1) := by decide +kernel
theorem dX12_word_1 : decode cX12_word 1 = .ok (.lstore_n 1, 1) := by decide +kernel
theorem dX12_word_2 : decode cX12_word 2 = .ok (.aload_n 0, 1) := by decide +kernel
theorem dX12_word_3 : decode cX12_word 3 = .ok (.getfield 197, 3) := by decide +kernel
theorem dX12_word_6 : decode cX12_word 6 = .ok (.istore_n 3, 1) := by decide +kernel
theorem dX12_word_7 : decode cX12_word 7 = .ok (.iload_n 3, 1) := by decide +kernel
theorem dX12_word_8 : decode cX12_word 8 = .ok (.aload_n 0, 1) := by decide +kernel
theorem dX12_word_9 : decode cX12_word 9 = .ok (.getfield 209, 3) := by decide +kernel
theorem dX12_word_12 : decode cX12_word 12 = .ok (.if_icmp .ge 30, 3) := by decide +kernel
theorem dX12_word_15 : decode cX12_word 15 = .ok (.aload_n 0, 1) := by decide +kernel
theorem dX12_word_16 : decode cX12_word 16 = .ok (.getfield 200, 3) := by decide +kernel
theorem dX12_word_19 : decode cX12_word 19 = .ok (.iconst 2, 1) := by decide +kernel
theorem dX12_word_20 : decode cX12_word 20 = .ok (.if_icmp .ne 22, 3) := by decide +kernel
theorem dX12_word_23 : decode cX12_word 23 = .ok (.lload_n 1, 1) := by decide +kernel
theorem dX12_word_24 : decode cX12_word 24 = .ok (.bipush 8, 2) := by decide +kernel
theorem dX12_word_26 : decode cX12_word 26 = .ok (.lshl, 1) := by decide +kernel
theorem dX12_word_27 : decode cX12_word 27 = .ok (.aload_n 0, 1) := by decide +kernel
theorem dX12_word_28 : decode cX12_word 28 = .ok (.getfield 80, 3) := by decide +kernel
theorem dX12_word_31 : decode cX12_word 31 = .ok (.iload_n 3, 1) := by decide +kernel
theorem dX12_word_32 : decode cX12_word 32 = .ok (.iaload, 1) := by decide +kernel
theorem dX12_word_33 : decode cX12_word 33 = .ok (.i2l, 1) := by decide +kernel
theorem dX12_word_34 : decode cX12_word 34 = .ok (.lor, 1) := by decide +kernel
theorem dX12_word_35 : decode cX12_word 35 = .ok (.lstore_n 1, 1) := by decide +kernel
theorem dX12_word_36 : decode cX12_word 36 = .ok (.iinc 3 1, 3) := by decide +kernel
theorem dX12_word_39 : decode cX12_word 39 = .ok (.goto (-32), 3) := by decide +kernel
theorem dX12_word_42 : decode cX12_word 42 = .ok (.lload_n 1, 1) := by decide +kernel
theorem dX12_word_43 : decode cX12_word 43 = .ok (.lreturn, 1) := by decide +kernel
theorem kd_X12_word : aKd m_X12_word 0 := ⟨wd_31_10, wd_1_5, ⟨by decide +kernel, by decide +kernel, by decide +kernel⟩⟩
set_option maxRecDepth 100000 in
set_option maxHeartbeats 4000000 in
theorem l_X12_word_42  (x1 : Int64) (σ : aSt) (o : Int64 × aSt) (h : f_X12_word_42  x1 σ = some o) : AW true m_X12_word 42 [(1, Value.long (x1))] [] σ 0 0 (some (.long o.1)) o.2 := by
  unfold f_X12_word_42 at h
  refine w_lload_n 0 dX12_word_42 rfl rfl ?_
  obtain rfl := Option.some.inj h
  exact w_lreturn dX12_word_43 rfl (Nat.le_of_ble_eq_true rfl) (Nat.le_of_ble_eq_true rfl)
set_option maxRecDepth 100000 in
set_option maxHeartbeats 4000000 in
theorem l_X12_word_7_b (rec7 : Int64 → Int32 → aSt → Option (Int64 × aSt)) (hrec7 : ∀ (x1 : Int64) (x3 : Int32) (σ : aSt) (o : Int64 × aSt), rec7 x1 x3 σ = some o → AW true m_X12_word 7 [(0, va_rf (some (57))), (1, Value.long (x1)), (3, Value.int (x3))] [] σ 0 0 (some (.long o.1)) o.2) (x1 : Int64) (x3 : Int32) (σ : aSt) (o : Int64 × aSt) (h : f_X12_word_7_b rec7 x1 x3 σ = some o) : AW true m_X12_word 7 [(0, va_rf (some (57))), (1, Value.long (x1)), (3, Value.int (x3))] [] σ 0 0 (some (.long o.1)) o.2 := by
  unfold f_X12_word_7_b at h
  refine w_iload_n 2 dX12_word_7 rfl rfl ?_
  refine w_aload_n 0 ((some (57))) dX12_word_8 rfl rfl ?_
  refine w_get dX12_word_9 fl_RX12_209 ⟨rfl, Or.inr ⟨rfl, by decide⟩⟩ (aFv_i rfl) ?_
  refine w_icmp_ge 42 dX12_word_12 (by decide) (fun c1 => ?_) (fun c1 => ?_)
  · replace h := e_t c1 h
    refine w_sub [1] rfl ?_
    exact l_X12_word_42 _ _ _ h
  · replace h := e_f c1 h
    refine w_aload_n 0 ((some (57))) dX12_word_15 rfl rfl ?_
    refine w_get dX12_word_16 fl_RX12_200 ⟨rfl, Or.inr ⟨rfl, by decide⟩⟩ (aFv_i rfl) ?_
    refine w_iconst (v := 2) dX12_word_19 (by decide) ?_
    refine w_icmp_ne 42 dX12_word_20 (by decide) (fun c2 => ?_) (fun c2 => ?_)
    · replace h := e_f c2 h
      refine w_sub [1] rfl ?_
      exact l_X12_word_42 _ _ _ h
    · replace h := e_t c2 h
      refine w_lload_n 1 dX12_word_23 rfl rfl ?_
      refine w_bipush (v := 8) dX12_word_24 (by decide) ?_
      refine w_lshl dX12_word_26 ?_
      refine w_aload_n 0 ((some (57))) dX12_word_27 rfl rfl ?_
      refine w_get (v := va_rf (some 77)) dX12_word_28 fl_RX12_80 ⟨rfl, Or.inr ⟨rfl, by decide⟩⟩ (aFv_k rfl) ?_
      refine w_iload_n 2 dX12_word_31 rfl rfl ?_
      replace h := e_grd h; obtain ⟨b3, h⟩ := h
      refine w_iaload dX12_word_32 ⟨rfl, Or.inr ⟨rfl, by decide⟩⟩ b3 ?_
      refine w_i2l dX12_word_33 ?_
      refine w_lor dX12_word_34 ?_
      refine w_lstore_n dX12_word_35 rfl (by decide) rfl ?_
      refine w_iinc (q := 2) (v := x3 + 1) dX12_word_36 rfl rfl (by decide) rfl ?_
      refine w_goto 7 dX12_word_39 (by decide) ?_
      refine w_sub [2, 1, 0] rfl ?_
      exact hrec7 _ _ _ _ h
theorem l_X12_word_7  : ∀ (n : Nat) (x1 : Int64) (x3 : Int32) (σ : aSt) (o : Int64 × aSt), f_X12_word_7  n x1 x3 σ = some o → AW true m_X12_word 7 [(0, va_rf (some (57))), (1, Value.long (x1)), (3, Value.int (x3))] [] σ 0 0 (some (.long o.1)) o.2
  | 0 => fun x1 x3 σ o h => by cases h
  | n + 1 => fun x1 x3 σ o h => l_X12_word_7_b (f_X12_word_7  n) (l_X12_word_7  n) x1 x3 σ o h
set_option maxRecDepth 100000 in
set_option maxHeartbeats 4000000 in
theorem c_X12_word  (σ : aSt) (o : Int64 × aSt) (h : f_X12_word  σ = some o) : AM true m_X12_word [va_rf (some (57))] σ (some (.long o.1)) o.2 := by
  refine AM_of2 (lv := [(0, va_rf (some (57)))]) (by decide +kernel) rfl (Nat.le_of_ble_eq_true rfl) ?_
  unfold f_X12_word at h
  refine w_lconst (v := 0) dX12_word_0 (by decide) ?_
  refine w_lstore_n dX12_word_1 rfl (by decide) rfl ?_
  refine w_aload_n 1 ((some (57))) dX12_word_2 rfl rfl ?_
  refine w_get dX12_word_3 fl_RX12_197 ⟨rfl, Or.inr ⟨rfl, by decide⟩⟩ (aFv_i rfl) ?_
  refine w_istore_n dX12_word_6 rfl (by decide) rfl ?_
  refine w_sub [2, 1, 0] rfl ?_
  exact l_X12_word_7 aN _ _ _ _ h
theorem dX12_bad_0 : decode cX12_bad 0 = .ok (.aload_n 0, 1) := by decide +kernel
theorem dX12_bad_1 : decode cX12_bad 1 = .ok (.getfield 212, 3) := by decide +kernel
theorem dX12_bad_4 : decode cX12_bad 4 = .ok (.ifCond .ne 16, 3) := by decide +kernel
theorem dX12_bad_7 : decode cX12_bad 7 = .ok (.aload_n 0, 1) := by decide +kernel
theorem dX12_bad_8 : decode cX12_bad 8 = .ok (.iload_n 1, 1) := by decide +kernel
theorem dX12_bad_9 : decode cX12_bad 9 = .ok (.putfield 212, 3) := by decide +kernel
theorem dX12_bad_12 : decode cX12_bad 12 = .ok (.aload_n 0, 1) := by decide +kernel
theorem dX12_bad_13 : decode cX12_bad 13 = .ok (.aload_n 0, 1) := by decide +kernel
theorem dX12_bad_14 : decode cX12_bad 14 = .ok (.getfield 197, 3) := by decide +kernel
theorem dX12_bad_17 : decode cX12_bad 17 = .ok (.putfield 215, 3) := by decide +kernel
theorem dX12_bad_20 : decode cX12_bad 20 = .ok (.return_, 1) := by decide +kernel
theorem kd_X12_bad : aKd m_X12_bad 1 := ⟨wd_31_14, wd_1_5, ⟨by decide +kernel, by decide +kernel, by decide +kernel⟩⟩
set_option maxRecDepth 100000 in
set_option maxHeartbeats 4000000 in
theorem l_X12_bad_20   (σ : aSt) (o : Unit × aSt) (h : f_X12_bad_20   σ = some o) : AW true m_X12_bad 20 [] [] σ 0 0 none o.2 := by
  unfold f_X12_bad_20 at h
  obtain rfl := Option.some.inj h
  exact w_vreturn dX12_bad_20 rfl (Nat.le_of_ble_eq_true rfl) (Nat.le_of_ble_eq_true rfl)
set_option maxRecDepth 100000 in
set_option maxHeartbeats 4000000 in
theorem c_X12_bad (p1 : Int32) (σ : aSt) (o : Unit × aSt) (h : f_X12_bad p1 σ = some o) : AM true m_X12_bad [va_rf (some (57)), .int (p1)] σ none o.2 := by
  refine AM_of2 (lv := [(0, va_rf (some (57))), (1, Value.int (p1))]) (by decide +kernel) rfl (Nat.le_of_ble_eq_true rfl) ?_
  unfold f_X12_bad at h
  refine w_aload_n 0 ((some (57))) dX12_bad_0 rfl rfl ?_
  refine w_get dX12_bad_1 fl_RX12_212 ⟨rfl, Or.inr ⟨rfl, by decide⟩⟩ (aFv_i rfl) ?_
  refine w_if_ne 20 dX12_bad_4 (by decide) (fun c1 => ?_) (fun c1 => ?_)
  · replace h := e_f c1 h
    refine w_sub [] rfl ?_
    exact l_X12_bad_20 _ _ h
  · replace h := e_t c1 h
    refine w_aload_n 0 ((some (57))) dX12_bad_7 rfl rfl ?_
    refine w_iload_n 1 dX12_bad_8 rfl rfl ?_
    refine w_putI dX12_bad_9 fl_RX12_212 (Or.inl rfl) rfl ⟨rfl, Or.inr ⟨rfl, by decide⟩⟩ ?_
    refine w_aload_n 0 ((some (57))) dX12_bad_12 rfl rfl ?_
    refine w_aload_n 0 ((some (57))) dX12_bad_13 rfl rfl ?_
    refine w_get dX12_bad_14 fl_RX12_197 ⟨rfl, Or.inr ⟨rfl, by decide⟩⟩ (aFv_i rfl) ?_
    refine w_putI dX12_bad_17 fl_RX12_215 (Or.inl rfl) rfl ⟨rfl, Or.inr ⟨rfl, by decide⟩⟩ ?_
    refine w_sub [] rfl ?_
    exact l_X12_bad_20 _ _ h
theorem dX12_need_0 : decode cX12_need 0 = .ok (.iload_n 1, 1) := by decide +kernel
theorem dX12_need_1 : decode cX12_need 1 = .ok (.ifCond .ne 8, 3) := by decide +kernel
theorem dX12_need_4 : decode cX12_need 4 = .ok (.aload_n 0, 1) := by decide +kernel
theorem dX12_need_5 : decode cX12_need 5 = .ok (.iconst 1, 1) := by decide +kernel
theorem dX12_need_6 : decode cX12_need 6 = .ok (.invokevirtual 218, 3) := by decide +kernel
theorem dX12_need_9 : decode cX12_need 9 = .ok (.aload_n 0, 1) := by decide +kernel
theorem dX12_need_10 : decode cX12_need 10 = .ok (.getfield 212, 3) := by decide +kernel
theorem dX12_need_13 : decode cX12_need 13 = .ok (.ifCond .ne 7, 3) := by decide +kernel
theorem dX12_need_16 : decode cX12_need 16 = .ok (.aload_n 0, 1) := by decide +kernel
theorem dX12_need_17 : decode cX12_need 17 = .ok (.invokevirtual 222, 3) := by decide +kernel
theorem dX12_need_20 : decode cX12_need 20 = .ok (.return_, 1) := by decide +kernel
theorem kd_X12_need : aKd m_X12_need 1 := ⟨wd_31_18, wd_1_5, ⟨by decide +kernel, by decide +kernel, by decide +kernel⟩⟩
set_option maxRecDepth 100000 in
set_option maxHeartbeats 4000000 in
theorem l_X12_need_20   (σ : aSt) (o : Unit × aSt) (h : f_X12_need_20   σ = some o) : AW true m_X12_need 20 [] [] σ 0 0 none o.2 := by
  unfold f_X12_need_20 at h
  obtain rfl := Option.some.inj h
  exact w_vreturn dX12_need_20 rfl (Nat.le_of_ble_eq_true rfl) (Nat.le_of_ble_eq_true rfl)
set_option maxRecDepth 100000 in
set_option maxHeartbeats 4000000 in
theorem l_X12_need_9   (σ : aSt) (o : Unit × aSt) (h : f_X12_need_9   σ = some o) : AW true m_X12_need 9 [(0, va_rf (some (57)))] [] σ 0 0 none o.2 := by
  unfold f_X12_need_9 at h
  refine w_aload_n 0 ((some (57))) dX12_need_9 rfl rfl ?_
  refine w_get dX12_need_10 fl_RX12_212 ⟨rfl, Or.inr ⟨rfl, by decide⟩⟩ (aFv_i rfl) ?_
  refine w_if_ne 20 dX12_need_13 (by decide) (fun c4 => ?_) (fun c4 => ?_)
  · replace h := e_f c4 h
    refine w_sub [] rfl ?_
    exact l_X12_need_20 _ _ h
  · replace h := e_t c4 h
    refine w_aload_n 0 ((some (57))) dX12_need_16 rfl rfl ?_
    replace h := e_bind h; obtain ⟨q5, e6, h⟩ := h
    refine w_callV0 (M2 := m_X12_step) (av := []) (ci := 12) (c_X12_step  _ _ e6) dX12_need_17 kd_X12_step wd_30_3 wd_30_4 wd_30_5 rfl rfl ⟨rfl, Or.inr ⟨rfl, by decide⟩⟩ rfl ⟨Nat.le_of_ble_eq_true rfl, Nat.le_of_ble_eq_true rfl, Nat.le_of_ble_eq_true rfl, Nat.le_of_ble_eq_true rfl⟩ (Nat.le_of_ble_eq_true rfl) ?_
    refine w_sub [] rfl ?_
    exact l_X12_need_20 _ _ h
set_option maxRecDepth 100000 in
set_option maxHeartbeats 4000000 in
theorem c_X12_need (p1 : Int32) (σ : aSt) (o : Unit × aSt) (h : f_X12_need p1 σ = some o) : AM true m_X12_need [va_rf (some (57)), .int (p1)] σ none o.2 := by
  refine AM_of2 (lv := [(0, va_rf (some (57))), (1, Value.int (p1))]) (by decide +kernel) rfl (Nat.le_of_ble_eq_true rfl) ?_
  unfold f_X12_need at h
  refine w_iload_n 1 dX12_need_0 rfl rfl ?_
  refine w_if_ne 9 dX12_need_1 (by decide) (fun c1 => ?_) (fun c1 => ?_)
  · replace h := e_f c1 h
    refine w_sub [0] rfl ?_
    exact l_X12_need_9 _ _ h
  · replace h := e_t c1 h
    refine w_aload_n 0 ((some (57))) dX12_need_4 rfl rfl ?_
    refine w_iconst (v := 1) dX12_need_5 (by decide) ?_
    replace h := e_bind h; obtain ⟨q2, e3, h⟩ := h
    refine w_callV0 (M2 := m_X12_bad) (av := [.int (1)]) (ci := 12) (c_X12_bad _ _ _ e3) dX12_need_6 kd_X12_bad wd_31_11 wd_31_12 wd_31_13 rfl rfl ⟨rfl, Or.inr ⟨rfl, by decide⟩⟩ rfl ⟨Nat.le_of_ble_eq_true rfl, Nat.le_of_ble_eq_true rfl, Nat.le_of_ble_eq_true rfl, Nat.le_of_ble_eq_true rfl⟩ (Nat.le_of_ble_eq_true rfl) ?_
    refine w_sub [0] rfl ?_
    exact l_X12_need_9 _ _ h
theorem dX12_numberIn_0 : decode cX12_numberIn 0 = .ok (.iconst 0, 1) := by decide +kernel
theorem dX12_numberIn_1 : decode cX12_numberIn 1 = .ok (.istore_n 3, 1) := by decide +kernel
theorem dX12_numberIn_2 : decode cX12_numberIn 2 = .ok (.aload_n 0, 1) := by decide +kernel
theorem dX12_numberIn_3 : decode cX12_numberIn 3 = .ok (.getfield 197, 3) := by decide +kernel
theorem dX12_numberIn_6 : decode cX12_numberIn 6 = .ok (.istore 4, 2) := by decide +kernel
theorem dX12_numberIn_8 : decode cX12_numberIn 8 = .ok (.iload 4, 2) := by decide +kernel
theorem dX12_numberIn_10 : decode cX12_numberIn 10 = .ok (.aload_n 0, 1) := by decide +kernel
theorem dX12_numberIn_11 : decode cX12_numberIn 11 = .ok (.getfield 209, 3) := by decide +kernel
theorem dX12_numberIn_14 : decode cX12_numberIn 14 = .ok (.if_icmp .ge 33, 3) := by decide +kernel
theorem dX12_numberIn_17 : decode cX12_numberIn 17 = .ok (.aload_n 0, 1) := by decide +kernel
theorem dX12_numberIn_18 : decode cX12_numberIn 18 = .ok (.getfield 200, 3) := by decide +kernel
theorem dX12_numberIn_21 : decode cX12_numberIn 21 = .ok (.iconst 3, 1) := by decide +kernel
theorem dX12_numberIn_22 : decode cX12_numberIn 22 = .ok (.if_icmp .ne 25, 3) := by decide +kernel
theorem dX12_numberIn_25 : decode cX12_numberIn 25 = .ok (.bipush 10, 2) := by decide +kernel
theorem dX12_numberIn_27 : decode cX12_numberIn 27 = .ok (.iload_n 3, 1) := by decide +kernel
theorem dX12_numberIn_28 : decode cX12_numberIn 28 = .ok (.imul, 1) := by decide +kernel
theorem dX12_numberIn_29 : decode cX12_numberIn 29 = .ok (.aload_n 0, 1) := by decide +kernel
theorem dX12_numberIn_30 : decode cX12_numberIn 30 = .ok (.getfield 80, 3) := by decide +kernel
theorem dX12_numberIn_33 : decode cX12_numberIn 33 = .ok (.iload 4, 2) := by decide +kernel
theorem dX12_numberIn_35 : decode cX12_numberIn 35 = .ok (.iaload, 1) := by decide +kernel
theorem dX12_numberIn_36 : decode cX12_numberIn 36 = .ok (.iadd, 1) := by decide +kernel
theorem dX12_numberIn_37 : decode cX12_numberIn 37 = .ok (.bipush 48, 2) := by decide +kernel
theorem dX12_numberIn_39 : decode cX12_numberIn 39 = .ok (.isub, 1) := by decide +kernel
theorem dX12_numberIn_40 : decode cX12_numberIn 40 = .ok (.istore_n 3, 1) := by decide +kernel
theorem dX12_numberIn_41 : decode cX12_numberIn 41 = .ok (.iinc 4 1, 3) := by decide +kernel
theorem dX12_numberIn_44 : decode cX12_numberIn 44 = .ok (.goto (-36), 3) := by decide +kernel
theorem dX12_numberIn_47 : decode cX12_numberIn 47 = .ok (.aload_n 0, 1) := by decide +kernel
theorem dX12_numberIn_48 : decode cX12_numberIn 48 = .ok (.getfield 200, 3) := by decide +kernel
theorem dX12_numberIn_51 : decode cX12_numberIn 51 = .ok (.iconst 3, 1) := by decide +kernel
theorem dX12_numberIn_52 : decode cX12_numberIn 52 = .ok (.if_icmp .ne 20, 3) := by decide +kernel
theorem dX12_numberIn_55 : decode cX12_numberIn 55 = .ok (.iload_n 3, 1) := by decide +kernel
theorem dX12_numberIn_56 : decode cX12_numberIn 56 = .ok (.i2l, 1) := by decide +kernel
theorem dX12_numberIn_57 : decode cX12_numberIn 57 = .ok (.iload_n 1, 1) := by decide +kernel
theorem dX12_numberIn_58 : decode cX12_numberIn 58 = .ok (.i2l, 1) := by decide +kernel
theorem dX12_numberIn_59 : decode cX12_numberIn 59 = .ok (.iload_n 2, 1) := by decide +kernel
theorem dX12_numberIn_60 : decode cX12_numberIn 60 = .ok (.i2l, 1) := by decide +kernel
theorem dX12_numberIn_61 : decode cX12_numberIn 61 = .ok (.invokestatic 111, 3) := by decide +kernel
theorem dX12_numberIn_64 : decode cX12_numberIn 64 = .ok (.ifCond .ne 8, 3) := by decide +kernel
theorem dX12_numberIn_67 : decode cX12_numberIn 67 = .ok (.aload_n 0, 1) := by decide +kernel
theorem dX12_numberIn_68 : decode cX12_numberIn 68 = .ok (.iconst 2, 1) := by decide +kernel
theorem dX12_numberIn_69 : decode cX12_numberIn 69 = .ok (.invokevirtual 218, 3) := by decide +kernel
theorem dX12_numberIn_72 : decode cX12_numberIn 72 = .ok (.aload_n 0, 1) := by decide +kernel
theorem dX12_numberIn_73 : decode cX12_numberIn 73 = .ok (.aload_n 0, 1) := by decide +kernel
theorem dX12_numberIn_74 : decode cX12_numberIn 74 = .ok (.getfield 200, 3) := by decide +kernel
theorem dX12_numberIn_77 : decode cX12_numberIn 77 = .ok (.iconst 3, 1) := by decide +kernel
theorem dX12_numberIn_78 : decode cX12_numberIn 78 = .ok (.if_icmp .ne 7, 3) := by decide +kernel
theorem dX12_numberIn_81 : decode cX12_numberIn 81 = .ok (.iconst 1, 1) := by decide +kernel
theorem dX12_numberIn_82 : decode cX12_numberIn 82 = .ok (.goto 4, 3) := by decide +kernel
theorem dX12_numberIn_85 : decode cX12_numberIn 85 = .ok (.iconst 0, 1) := by decide +kernel
theorem dX12_numberIn_86 : decode cX12_numberIn 86 = .ok (.invokevirtual 225, 3) := by decide +kernel
theorem dX12_numberIn_89 : decode cX12_numberIn 89 = .ok (.iload_n 3, 1) := by decide +kernel
theorem dX12_numberIn_90 : decode cX12_numberIn 90 = .ok (.ireturn, 1) := by decide +kernel
theorem kd_X12_numberIn : aKd m_X12_numberIn 2 := ⟨wd_31_22, wd_1_5, ⟨by decide +kernel, by decide +kernel, by decide +kernel⟩⟩
set_option maxRecDepth 100000 in
set_option maxHeartbeats 4000000 in
theorem l_X12_numberIn_86  (x3 : Int32) (t1 : Int32) (σ : aSt) (o : Int32 × aSt) (h : f_X12_numberIn_86  x3 t1 σ = some o) : AW true m_X12_numberIn 86 [(3, Value.int (x3))] [.int (t1), va_rf (some (57))] σ 0 0 (some (.int o.1)) o.2 := by
  unfold f_X12_numberIn_86 at h
  replace h := e_bind h; obtain ⟨q1, e2, h⟩ := h
  refine w_callV0 (M2 := m_X12_need) (av := [.int (t1)]) (ci := 12) (c_X12_need _ _ _ e2) dX12_numberIn_86 kd_X12_need wd_31_15 wd_31_16 wd_31_17 rfl rfl ⟨rfl, Or.inr ⟨rfl, by decide⟩⟩ rfl ⟨Nat.le_of_ble_eq_true rfl, Nat.le_of_ble_eq_true rfl, Nat.le_of_ble_eq_true rfl, Nat.le_of_ble_eq_true rfl⟩ (Nat.le_of_ble_eq_true rfl) ?_
  refine w_iload_n 0 dX12_numberIn_89 rfl rfl ?_
  obtain rfl := Option.some.inj h
  exact w_ireturn dX12_numberIn_90 rfl (Nat.le_of_ble_eq_true rfl) (Nat.le_of_ble_eq_true rfl)
set_option maxRecDepth 100000 in
set_option maxHeartbeats 4000000 in
theorem l_X12_numberIn_72  (x3 : Int32) (σ : aSt) (o : Int32 × aSt) (h : f_X12_numberIn_72  x3 σ = some o) : AW true m_X12_numberIn 72 [(0, va_rf (some (57))), (3, Value.int (x3))] [] σ 0 0 (some (.int o.1)) o.2 := by
  unfold f_X12_numberIn_72 at h
  refine w_aload_n 0 ((some (57))) dX12_numberIn_72 rfl rfl ?_
  refine w_aload_n 0 ((some (57))) dX12_numberIn_73 rfl rfl ?_
  refine w_get dX12_numberIn_74 fl_RX12_200 ⟨rfl, Or.inr ⟨rfl, by decide⟩⟩ (aFv_i rfl) ?_
  refine w_iconst (v := 3) dX12_numberIn_77 (by decide) ?_
  refine w_icmp_ne 85 dX12_numberIn_78 (by decide) (fun c3 => ?_) (fun c3 => ?_)
  · replace h := e_f c3 h
    refine w_iconst (v := 0) dX12_numberIn_85 (by decide) ?_
    refine w_sub [1] rfl ?_
    exact l_X12_numberIn_86 _ _ _ _ h
  · replace h := e_t c3 h
    refine w_iconst (v := 1) dX12_numberIn_81 (by decide) ?_
    refine w_goto 86 dX12_numberIn_82 (by decide) ?_
    refine w_sub [1] rfl ?_
    exact l_X12_numberIn_86 _ _ _ _ h
set_option maxRecDepth 100000 in
set_option maxHeartbeats 4000000 in
theorem l_X12_numberIn_47  (x1 : Int32) (x2 : Int32) (x3 : Int32) (σ : aSt) (o : Int32 × aSt) (h : f_X12_numberIn_47  x1 x2 x3 σ = some o) : AW true m_X12_numberIn 47 [(0, va_rf (some (57))), (1, Value.int (x1)), (2, Value.int (x2)), (3, Value.int (x3))] [] σ 0 0 (some (.int o.1)) o.2 := by
  unfold f_X12_numberIn_47 at h
  refine w_aload_n 0 ((some (57))) dX12_numberIn_47 rfl rfl ?_
  refine w_get dX12_numberIn_48 fl_RX12_200 ⟨rfl, Or.inr ⟨rfl, by decide⟩⟩ (aFv_i rfl) ?_
  refine w_iconst (v := 3) dX12_numberIn_51 (by decide) ?_
  refine w_icmp_ne 72 dX12_numberIn_52 (by decide) (fun c4 => ?_) (fun c4 => ?_)
  · replace h := e_f c4 h
    refine w_sub [0, 3] rfl ?_
    exact l_X12_numberIn_72 _ _ _ h
  · replace h := e_t c4 h
    refine w_iload_n 3 dX12_numberIn_55 rfl rfl ?_
    refine w_i2l dX12_numberIn_56 ?_
    refine w_iload_n 1 dX12_numberIn_57 rfl rfl ?_
    refine w_i2l dX12_numberIn_58 ?_
    refine w_iload_n 2 dX12_numberIn_59 rfl rfl ?_
    refine w_i2l dX12_numberIn_60 ?_
    replace h := e_bind h; obtain ⟨q5, e6, h⟩ := h
    refine w_callS1 (M2 := m_X12_in) (av := [.long (x3.toInt64), .long (x1.toInt64), .long (x2.toInt64)]) (c_X12_in _ _ _ _ _ e6) dX12_numberIn_61 kd_X12_in wd_11_3 wd_11_4 rfl rfl ⟨Nat.le_of_ble_eq_true rfl, Nat.le_of_ble_eq_true rfl, Nat.le_of_ble_eq_true rfl, Nat.le_of_ble_eq_true rfl⟩ (Nat.le_of_ble_eq_true rfl) ?_
    refine w_if_ne 72 dX12_numberIn_64 (by decide) (fun c7 => ?_) (fun c7 => ?_)
    · replace h := e_f c7 h
      refine w_sub [0, 3] rfl ?_
      exact l_X12_numberIn_72 _ _ _ h
    · replace h := e_t c7 h
      refine w_aload_n 0 ((some (57))) dX12_numberIn_67 rfl rfl ?_
      refine w_iconst (v := 2) dX12_numberIn_68 (by decide) ?_
      replace h := e_bind h; obtain ⟨q8, e9, h⟩ := h
      refine w_callV0 (M2 := m_X12_bad) (av := [.int (2)]) (ci := 12) (c_X12_bad _ _ _ e9) dX12_numberIn_69 kd_X12_bad wd_31_11 wd_31_12 wd_31_13 rfl rfl ⟨rfl, Or.inr ⟨rfl, by decide⟩⟩ rfl ⟨Nat.le_of_ble_eq_true rfl, Nat.le_of_ble_eq_true rfl, Nat.le_of_ble_eq_true rfl, Nat.le_of_ble_eq_true rfl⟩ (Nat.le_of_ble_eq_true rfl) ?_
      refine w_sub [0, 3] rfl ?_
      exact l_X12_numberIn_72 _ _ _ h
set_option maxRecDepth 100000 in
set_option maxHeartbeats 4000000 in
theorem l_X12_numberIn_8_b (rec8 : Int32 → Int32 → Int32 → Int32 → aSt → Option (Int32 × aSt)) (hrec8 : ∀ (x1 : Int32) (x2 : Int32) (x3 : Int32) (x4 : Int32) (σ : aSt) (o : Int32 × aSt), rec8 x1 x2 x3 x4 σ = some o → AW true m_X12_numberIn 8 [(0, va_rf (some (57))), (1, Value.int (x1)), (2, Value.int (x2)), (3, Value.int (x3)), (4, Value.int (x4))] [] σ 0 0 (some (.int o.1)) o.2) (x1 : Int32) (x2 : Int32) (x3 : Int32) (x4 : Int32) (σ : aSt) (o : Int32 × aSt) (h : f_X12_numberIn_8_b rec8 x1 x2 x3 x4 σ = some o) : AW true m_X12_numberIn 8 [(0, va_rf (some (57))), (1, Value.int (x1)), (2, Value.int (x2)), (3, Value.int (x3)), (4, Value.int (x4))] [] σ 0 0 (some (.int o.1)) o.2 := by
  unfold f_X12_numberIn_8_b at h
  refine w_iload 4 dX12_numberIn_8 rfl ?_
  refine w_aload_n 0 ((some (57))) dX12_numberIn_10 rfl rfl ?_
  refine w_get dX12_numberIn_11 fl_RX12_209 ⟨rfl, Or.inr ⟨rfl, by decide⟩⟩ (aFv_i rfl) ?_
  refine w_icmp_ge 47 dX12_numberIn_14 (by decide) (fun c10 => ?_) (fun c10 => ?_)
  · replace h := e_t c10 h
    refine w_sub [0, 1, 2, 3] rfl ?_
    exact l_X12_numberIn_47 _ _ _ _ _ h
  · replace h := e_f c10 h
    refine w_aload_n 0 ((some (57))) dX12_numberIn_17 rfl rfl ?_
    refine w_get dX12_numberIn_18 fl_RX12_200 ⟨rfl, Or.inr ⟨rfl, by decide⟩⟩ (aFv_i rfl) ?_
    refine w_iconst (v := 3) dX12_numberIn_21 (by decide) ?_
    refine w_icmp_ne 47 dX12_numberIn_22 (by decide) (fun c11 => ?_) (fun c11 => ?_)
    · replace h := e_f c11 h
      refine w_sub [0, 1, 2, 3] rfl ?_
      exact l_X12_numberIn_47 _ _ _ _ _ h
    · replace h := e_t c11 h
      refine w_bipush (v := 10) dX12_numberIn_25 (by decide) ?_
      refine w_iload_n 3 dX12_numberIn_27 rfl rfl ?_
      refine w_imul dX12_numberIn_28 ?_
      refine w_aload_n 0 ((some (57))) dX12_numberIn_29 rfl rfl ?_
      refine w_get (v := va_rf (some 77)) dX12_numberIn_30 fl_RX12_80 ⟨rfl, Or.inr ⟨rfl, by decide⟩⟩ (aFv_k rfl) ?_
      refine w_iload 4 dX12_numberIn_33 rfl ?_
      replace h := e_grd h; obtain ⟨b12, h⟩ := h
      refine w_iaload dX12_numberIn_35 ⟨rfl, Or.inr ⟨rfl, by decide⟩⟩ b12 ?_
      refine w_iadd dX12_numberIn_36 ?_
      refine w_bipush (v := 48) dX12_numberIn_37 (by decide) ?_
      refine w_isub dX12_numberIn_39 ?_
      refine w_istore_n dX12_numberIn_40 rfl (by decide) rfl ?_
      refine w_iinc (q := 4) (v := x4 + 1) dX12_numberIn_41 rfl rfl (by decide) rfl ?_
      refine w_goto 8 dX12_numberIn_44 (by decide) ?_
      refine w_sub [2, 3, 4, 1, 0] rfl ?_
      exact hrec8 _ _ _ _ _ _ h
theorem l_X12_numberIn_8  : ∀ (n : Nat) (x1 : Int32) (x2 : Int32) (x3 : Int32) (x4 : Int32) (σ : aSt) (o : Int32 × aSt), f_X12_numberIn_8  n x1 x2 x3 x4 σ = some o → AW true m_X12_numberIn 8 [(0, va_rf (some (57))), (1, Value.int (x1)), (2, Value.int (x2)), (3, Value.int (x3)), (4, Value.int (x4))] [] σ 0 0 (some (.int o.1)) o.2
  | 0 => fun x1 x2 x3 x4 σ o h => by cases h
  | n + 1 => fun x1 x2 x3 x4 σ o h => l_X12_numberIn_8_b (f_X12_numberIn_8  n) (l_X12_numberIn_8  n) x1 x2 x3 x4 σ o h
set_option maxRecDepth 100000 in
set_option maxHeartbeats 4000000 in
theorem c_X12_numberIn (p1 : Int32) (p2 : Int32) (σ : aSt) (o : Int32 × aSt) (h : f_X12_numberIn p1 p2 σ = some o) : AM true m_X12_numberIn [va_rf (some (57)), .int (p1), .int (p2)] σ (some (.int o.1)) o.2 := by
  refine AM_of2 (lv := [(0, va_rf (some (57))), (1, Value.int (p1)), (2, Value.int (p2))]) (by decide +kernel) rfl (Nat.le_of_ble_eq_true rfl) ?_
  unfold f_X12_numberIn at h
  refine w_iconst (v := 0) dX12_numberIn_0 (by decide) ?_
  refine w_istore_n dX12_numberIn_1 rfl (by decide) rfl ?_
  refine w_aload_n 1 ((some (57))) dX12_numberIn_2 rfl rfl ?_
  refine w_get dX12_numberIn_3 fl_RX12_197 ⟨rfl, Or.inr ⟨rfl, by decide⟩⟩ (aFv_i rfl) ?_
  refine w_istore dX12_numberIn_6 (by decide) rfl ?_
  refine w_sub [2, 3, 4, 1, 0] rfl ?_
  exact l_X12_numberIn_8 aN _ _ _ _ _ _ h
theorem dX12_featureOfWord_0 : decode cX12_featureOfWord 0 = .ok (.aload_n 0, 1) := by decide +kernel
theorem dX12_featureOfWord_1 : decode cX12_featureOfWord 1 = .ok (.invokevirtual 229, 3) := by decide +kernel
theorem dX12_featureOfWord_4 : decode cX12_featureOfWord 4 = .ok (.lstore_n 1, 1) := by decide +kernel
theorem dX12_featureOfWord_5 : decode cX12_featureOfWord 5 = .ok (.lload_n 1, 1) := by decide +kernel
theorem dX12_featureOfWord_6 : decode cX12_featureOfWord 6 = .ok (.ldc2_w 233, 3) := by decide +kernel
theorem dX12_featureOfWord_9 : decode cX12_featureOfWord 9 = .ok (.lcmp, 1) := by decide +kernel
theorem dX12_featureOfWord_10 : decode cX12_featureOfWord 10 = .ok (.ifCond .ne 7, 3) := by decide +kernel
theorem dX12_featureOfWord_13 : decode cX12_featureOfWord 13 = .ok (.iconst 0, 1) := by decide +kernel
theorem dX12_featureOfWord_14 : decode cX12_featureOfWord 14 = .ok (.goto 117, 3) := by decide +kernel
theorem dX12_featureOfWord_17 : decode cX12_featureOfWord 17 = .ok (.lload_n 1, 1) := by decide +kernel
theorem dX12_featureOfWord_18 : decode cX12_featureOfWord 18 = .ok (.ldc2_w 235, 3) := by decide +kernel
theorem dX12_featureOfWord_21 : decode cX12_featureOfWord 21 = .ok (.lcmp, 1) := by decide +kernel
theorem dX12_featureOfWord_22 : decode cX12_featureOfWord 22 = .ok (.ifCond .ne 7, 3) := by decide +kernel
theorem dX12_featureOfWord_25 : decode cX12_featureOfWord 25 = .ok (.iconst 1, 1) := by decide +kernel
theorem dX12_featureOfWord_26 : decode cX12_featureOfWord 26 = .ok (.goto 105, 3) := by decide +kernel
theorem dX12_featureOfWord_29 : decode cX12_featureOfWord 29 = .ok (.lload_n 1, 1) := by decide +kernel
theorem dX12_featureOfWord_30 : decode cX12_featureOfWord 30 = .ok (.ldc2_w 237, 3) := by decide +kernel
theorem dX12_featureOfWord_33 : decode cX12_featureOfWord 33 = .ok (.lcmp, 1) := by decide +kernel
theorem dX12_featureOfWord_34 : decode cX12_featureOfWord 34 = .ok (.ifCond .ne 7, 3) := by decide +kernel
theorem dX12_featureOfWord_37 : decode cX12_featureOfWord 37 = .ok (.iconst 2, 1) := by decide +kernel
theorem dX12_featureOfWord_38 : decode cX12_featureOfWord 38 = .ok (.goto 93, 3) := by decide +kernel
theorem dX12_featureOfWord_41 : decode cX12_featureOfWord 41 = .ok (.lload_n 1, 1) := by decide +kernel
theorem dX12_featureOfWord_42 : decode cX12_featureOfWord 42 = .ok (.ldc2_w 239, 3) := by decide +kernel
theorem dX12_featureOfWord_45 : decode cX12_featureOfWord 45 = .ok (.lcmp, 1) := by decide +kernel
theorem dX12_featureOfWord_46 : decode cX12_featureOfWord 46 = .ok (.ifCond .ne 7, 3) := by decide +kernel
theorem dX12_featureOfWord_49 : decode cX12_featureOfWord 49 = .ok (.iconst 3, 1) := by decide +kernel
theorem dX12_featureOfWord_50 : decode cX12_featureOfWord 50 = .ok (.goto 81, 3) := by decide +kernel
theorem dX12_featureOfWord_53 : decode cX12_featureOfWord 53 = .ok (.lload_n 1, 1) := by decide +kernel
theorem dX12_featureOfWord_54 : decode cX12_featureOfWord 54 = .ok (.ldc2_w 241, 3) := by decide +kernel
theorem dX12_featureOfWord_57 : decode cX12_featureOfWord 57 = .ok (.lcmp, 1) := by decide +kernel
theorem dX12_featureOfWord_58 : decode cX12_featureOfWord 58 = .ok (.ifCond .ne 7, 3) := by decide +kernel
theorem dX12_featureOfWord_61 : decode cX12_featureOfWord 61 = .ok (.iconst 4, 1) := by decide +kernel
theorem dX12_featureOfWord_62 : decode cX12_featureOfWord 62 = .ok (.goto 69, 3) := by decide +kernel
theorem dX12_featureOfWord_65 : decode cX12_featureOfWord 65 = .ok (.lload_n 1, 1) := by decide +kernel
theorem dX12_featureOfWord_66 : decode cX12_featureOfWord 66 = .ok (.ldc2_w 243, 3) := by decide +kernel
theorem dX12_featureOfWord_69 : decode cX12_featureOfWord 69 = .ok (.lcmp, 1) := by decide +kernel
theorem dX12_featureOfWord_70 : decode cX12_featureOfWord 70 = .ok (.ifCond .ne 7, 3) := by decide +kernel
theorem dX12_featureOfWord_73 : decode cX12_featureOfWord 73 = .ok (.iconst 5, 1) := by decide +kernel
theorem dX12_featureOfWord_74 : decode cX12_featureOfWord 74 = .ok (.goto 57, 3) := by decide +kernel
theorem dX12_featureOfWord_77 : decode cX12_featureOfWord 77 = .ok (.lload_n 1, 1) := by decide +kernel
theorem dX12_featureOfWord_78 : decode cX12_featureOfWord 78 = .ok (.ldc2_w 245, 3) := by decide +kernel
theorem dX12_featureOfWord_81 : decode cX12_featureOfWord 81 = .ok (.lcmp, 1) := by decide +kernel
theorem dX12_featureOfWord_82 : decode cX12_featureOfWord 82 = .ok (.ifCond .ne 8, 3) := by decide +kernel
theorem dX12_featureOfWord_85 : decode cX12_featureOfWord 85 = .ok (.bipush 6, 2) := by decide +kernel
theorem dX12_featureOfWord_87 : decode cX12_featureOfWord 87 = .ok (.goto 44, 3) := by decide +kernel
theorem dX12_featureOfWord_90 : decode cX12_featureOfWord 90 = .ok (.lload_n 1, 1) := by decide +kernel
theorem dX12_featureOfWord_91 : decode cX12_featureOfWord 91 = .ok (.ldc2_w 247, 3) := by decide +kernel
theorem dX12_featureOfWord_94 : decode cX12_featureOfWord 94 = .ok (.lcmp, 1) := by decide +kernel
theorem dX12_featureOfWord_95 : decode cX12_featureOfWord 95 = .ok (.ifCond .ne 8, 3) := by decide +kernel
theorem dX12_featureOfWord_98 : decode cX12_featureOfWord 98 = .ok (.bipush 7, 2) := by decide +kernel
theorem dX12_featureOfWord_100 : decode cX12_featureOfWord 100 = .ok (.goto 31, 3) := by decide +kernel
theorem dX12_featureOfWord_103 : decode cX12_featureOfWord 103 = .ok (.lload_n 1, 1) := by decide +kernel
theorem dX12_featureOfWord_104 : decode cX12_featureOfWord 104 = .ok (.ldc2_w 249, 3) := by decide +kernel
theorem dX12_featureOfWord_107 : decode cX12_featureOfWord 107 = .ok (.lcmp, 1) := by decide +kernel
theorem dX12_featureOfWord_108 : decode cX12_featureOfWord 108 = .ok (.ifCond .ne 8, 3) := by decide +kernel
theorem dX12_featureOfWord_111 : decode cX12_featureOfWord 111 = .ok (.bipush 8, 2) := by decide +kernel
theorem dX12_featureOfWord_113 : decode cX12_featureOfWord 113 = .ok (.goto 18, 3) := by decide +kernel
theorem dX12_featureOfWord_116 : decode cX12_featureOfWord 116 = .ok (.lload_n 1, 1) := by decide +kernel
theorem dX12_featureOfWord_117 : decode cX12_featureOfWord 117 = .ok (.ldc2_w 251, 3) := by decide +kernel
theorem dX12_featureOfWord_120 : decode cX12_featureOfWord 120 = .ok (.lcmp, 1) := by decide +kernel
theorem dX12_featureOfWord_121 : decode cX12_featureOfWord 121 = .ok (.ifCond .ne 8, 3) := by decide +kernel
theorem dX12_featureOfWord_124 : decode cX12_featureOfWord 124 = .ok (.bipush 9, 2) := by decide +kernel
theorem dX12_featureOfWord_126 : decode cX12_featureOfWord 126 = .ok (.goto 5, 3) := by decide +kernel
theorem dX12_featureOfWord_129 : decode cX12_featureOfWord 129 = .ok (.ldc 126, 2) := by decide +kernel
theorem dX12_featureOfWord_131 : decode cX12_featureOfWord 131 = .ok (.ireturn, 1) := by decide +kernel
theorem kd_X12_featureOfWord : aKd m_X12_featureOfWord 0 := ⟨wd_32_7, wd_1_5, ⟨by decide +kernel, by decide +kernel, by decide +kernel⟩⟩
set_option maxRecDepth 100000 in
set_option maxHeartbeats 4000000 in
theorem l_X12_featureOfWord_131  (t0 : Int32) (σ : aSt) (o : Int32 × aSt) (h : f_X12_featureOfWord_131  t0 σ = some o) : AW true m_X12_featureOfWord 131 [] [.int (t0)] σ 0 0 (some (.int o.1)) o.2 := by
  unfold f_X12_featureOfWord_131 at h
  obtain rfl := Option.some.inj h
  exact w_ireturn dX12_featureOfWord_131 rfl (Nat.le_of_ble_eq_true rfl) (Nat.le_of_ble_eq_true rfl)
set_option maxRecDepth 100000 in
set_option maxHeartbeats 4000000 in
theorem c_X12_featureOfWord  (σ : aSt) (o : Int32 × aSt) (h : f_X12_featureOfWord  σ = some o) : AM true m_X12_featureOfWord [va_rf (some (57))] σ (some (.int o.1)) o.2 := by
  refine AM_of2 (lv := [(0, va_rf (some (57)))]) (by decide +kernel) rfl (Nat.le_of_ble_eq_true rfl) ?_
  unfold f_X12_featureOfWord at h
  refine w_aload_n 0 ((some (57))) dX12_featureOfWord_0 rfl rfl ?_
  replace h := e_bind h; obtain ⟨q1, e2, h⟩ := h
  refine w_callV1 (M2 := m_X12_word) (av := []) (ci := 12) (c_X12_word  _ _ e2) dX12_featureOfWord_1 kd_X12_word wd_31_7 wd_31_8 wd_31_9 rfl rfl ⟨rfl, Or.inr ⟨rfl, by decide⟩⟩ rfl ⟨Nat.le_of_ble_eq_true rfl, Nat.le_of_ble_eq_true rfl, Nat.le_of_ble_eq_true rfl, Nat.le_of_ble_eq_true rfl⟩ (Nat.le_of_ble_eq_true rfl) ?_
  refine w_lstore_n dX12_featureOfWord_4 rfl (by decide) rfl ?_
  refine w_lload_n 0 dX12_featureOfWord_5 rfl rfl ?_
  refine w_ldc2 (v := 107122649296500) dX12_featureOfWord_6 wd_32_8 ?_
  refine w_lcmp dX12_featureOfWord_9 ?_
  refine w_if_ne 17 dX12_featureOfWord_10 (by decide) (fun c3 => ?_) (fun c3 => ?_)
  · replace h := e_f c3 h
    refine w_lload_n 0 dX12_featureOfWord_17 rfl rfl ?_
    refine w_ldc2 (v := 1936683636) dX12_featureOfWord_18 wd_32_9 ?_
    refine w_lcmp dX12_featureOfWord_21 ?_
    refine w_if_ne 29 dX12_featureOfWord_22 (by decide) (fun c4 => ?_) (fun c4 => ?_)
    · replace h := e_f c4 h
      refine w_lload_n 0 dX12_featureOfWord_29 rfl rfl ?_
      refine w_ldc2 (v := 1752135026) dX12_featureOfWord_30 wd_32_10 ?_
      refine w_lcmp dX12_featureOfWord_33 ?_
      refine w_if_ne 41 dX12_featureOfWord_34 (by decide) (fun c5 => ?_) (fun c5 => ?_)
      · replace h := e_f c5 h
        refine w_lload_n 0 dX12_featureOfWord_41 rfl rfl ?_
        refine w_ldc2 (v := 427071729268) dX12_featureOfWord_42 wd_32_11 ?_
        refine w_lcmp dX12_featureOfWord_45 ?_
        refine w_if_ne 53 dX12_featureOfWord_46 (by decide) (fun c6 => ?_) (fun c6 => ?_)
        · replace h := e_f c6 h
          refine w_lload_n 0 dX12_featureOfWord_53 rfl rfl ?_
          refine w_ldc2 (v := 7566701) dX12_featureOfWord_54 wd_32_12 ?_
          refine w_lcmp dX12_featureOfWord_57 ?_
          refine w_if_ne 65 dX12_featureOfWord_58 (by decide) (fun c7 => ?_) (fun c7 => ?_)
          · replace h := e_f c7 h
            refine w_lload_n 0 dX12_featureOfWord_65 rfl rfl ?_
            refine w_ldc2 (v := 123563950826867) dX12_featureOfWord_66 wd_32_13 ?_
            refine w_lcmp dX12_featureOfWord_69 ?_
            refine w_if_ne 77 dX12_featureOfWord_70 (by decide) (fun c8 => ?_) (fun c8 => ?_)
            · replace h := e_f c8 h
              refine w_lload_n 0 dX12_featureOfWord_77 rfl rfl ?_
              refine w_ldc2 (v := 1936024942) dX12_featureOfWord_78 wd_32_14 ?_
              refine w_lcmp dX12_featureOfWord_81 ?_
              refine w_if_ne 90 dX12_featureOfWord_82 (by decide) (fun c9 => ?_) (fun c9 => ?_)
              · replace h := e_f c9 h
                refine w_lload_n 0 dX12_featureOfWord_90 rfl rfl ?_
                refine w_ldc2 (v := 491261290863) dX12_featureOfWord_91 wd_32_15 ?_
                refine w_lcmp dX12_featureOfWord_94 ?_
                refine w_if_ne 103 dX12_featureOfWord_95 (by decide) (fun c10 => ?_) (fun c10 => ?_)
                · replace h := e_f c10 h
                  refine w_lload_n 0 dX12_featureOfWord_103 rfl rfl ?_
                  refine w_ldc2 (v := 6709618) dX12_featureOfWord_104 wd_32_16 ?_
                  refine w_lcmp dX12_featureOfWord_107 ?_
                  refine w_if_ne 116 dX12_featureOfWord_108 (by decide) (fun c11 => ?_) (fun c11 => ?_)
                  · replace h := e_f c11 h
                    refine w_lload_n 0 dX12_featureOfWord_116 rfl rfl ?_
                    refine w_ldc2 (v := 1768846447) dX12_featureOfWord_117 wd_32_17 ?_
                    refine w_lcmp dX12_featureOfWord_120 ?_
                    refine w_if_ne 129 dX12_featureOfWord_121 (by decide) (fun c12 => ?_) (fun c12 => ?_)
                    · replace h := e_f c12 h
                      refine w_ldc (v := (-1000000)) dX12_featureOfWord_129 wd_15_11 ?_
                      refine w_sub [] rfl ?_
                      exact l_X12_featureOfWord_131 _ _ _ h
                    · replace h := e_t c12 h
                      refine w_bipush (v := 9) dX12_featureOfWord_124 (by decide) ?_
                      refine w_goto 131 dX12_featureOfWord_126 (by decide) ?_
                      refine w_sub [] rfl ?_
                      exact l_X12_featureOfWord_131 _ _ _ h
                  · replace h := e_t c11 h
                    refine w_bipush (v := 8) dX12_featureOfWord_111 (by decide) ?_
                    refine w_goto 131 dX12_featureOfWord_113 (by decide) ?_
                    refine w_sub [] rfl ?_
                    exact l_X12_featureOfWord_131 _ _ _ h
                · replace h := e_t c10 h
                  refine w_bipush (v := 7) dX12_featureOfWord_98 (by decide) ?_
                  refine w_goto 131 dX12_featureOfWord_100 (by decide) ?_
                  refine w_sub [] rfl ?_
                  exact l_X12_featureOfWord_131 _ _ _ h
              · replace h := e_t c9 h
                refine w_bipush (v := 6) dX12_featureOfWord_85 (by decide) ?_
                refine w_goto 131 dX12_featureOfWord_87 (by decide) ?_
                refine w_sub [] rfl ?_
                exact l_X12_featureOfWord_131 _ _ _ h
            · replace h := e_t c8 h
              refine w_iconst (v := 5) dX12_featureOfWord_73 (by decide) ?_
              refine w_goto 131 dX12_featureOfWord_74 (by decide) ?_
              refine w_sub [] rfl ?_
              exact l_X12_featureOfWord_131 _ _ _ h
          · replace h := e_t c7 h
            refine w_iconst (v := 4) dX12_featureOfWord_61 (by decide) ?_
            refine w_goto 131 dX12_featureOfWord_62 (by decide) ?_
            refine w_sub [] rfl ?_
            exact l_X12_featureOfWord_131 _ _ _ h
        · replace h := e_t c6 h
          refine w_iconst (v := 3) dX12_featureOfWord_49 (by decide) ?_
          refine w_goto 131 dX12_featureOfWord_50 (by decide) ?_
          refine w_sub [] rfl ?_
          exact l_X12_featureOfWord_131 _ _ _ h
      · replace h := e_t c5 h
        refine w_iconst (v := 2) dX12_featureOfWord_37 (by decide) ?_
        refine w_goto 131 dX12_featureOfWord_38 (by decide) ?_
        refine w_sub [] rfl ?_
        exact l_X12_featureOfWord_131 _ _ _ h
    · replace h := e_t c4 h
      refine w_iconst (v := 1) dX12_featureOfWord_25 (by decide) ?_
      refine w_goto 131 dX12_featureOfWord_26 (by decide) ?_
      refine w_sub [] rfl ?_
      exact l_X12_featureOfWord_131 _ _ _ h
  · replace h := e_t c3 h
    refine w_iconst (v := 0) dX12_featureOfWord_13 (by decide) ?_
    refine w_goto 131 dX12_featureOfWord_14 (by decide) ?_
    refine w_sub [] rfl ?_
    exact l_X12_featureOfWord_131 _ _ _ h
theorem dX12_is_0 : decode cX12_is 0 = .ok (.aload_n 0, 1) := by decide +kernel
theorem dX12_is_1 : decode cX12_is 1 = .ok (.getfield 200, 3) := by decide +kernel
theorem dX12_is_4 : decode cX12_is 4 = .ok (.iconst 4, 1) := by decide +kernel
theorem dX12_is_5 : decode cX12_is 5 = .ok (.if_icmp .ne 20, 3) := by decide +kernel
theorem dX12_is_8 : decode cX12_is 8 = .ok (.aload_n 0, 1) := by decide +kernel
theorem dX12_is_9 : decode cX12_is 9 = .ok (.getfield 80, 3) := by decide +kernel
theorem dX12_is_12 : decode cX12_is 12 = .ok (.aload_n 0, 1) := by decide +kernel
theorem dX12_is_13 : decode cX12_is 13 = .ok (.getfield 197, 3) := by decide +kernel
theorem dX12_is_16 : decode cX12_is 16 = .ok (.iaload, 1) := by decide +kernel
theorem dX12_is_17 : decode cX12_is 17 = .ok (.iload_n 1, 1) := by decide +kernel
theorem dX12_is_18 : decode cX12_is 18 = .ok (.if_icmp .ne 7, 3) := by decide +kernel
theorem dX12_is_21 : decode cX12_is 21 = .ok (.iconst 1, 1) := by decide +kernel
theorem dX12_is_22 : decode cX12_is 22 = .ok (.goto 4, 3) := by decide +kernel
theorem dX12_is_25 : decode cX12_is 25 = .ok (.iconst 0, 1) := by decide +kernel
theorem dX12_is_26 : decode cX12_is 26 = .ok (.ireturn, 1) := by decide +kernel
theorem kd_X12_is : aKd m_X12_is 1 := ⟨wd_32_21, wd_1_5, ⟨by decide +kernel, by decide +kernel, by decide +kernel⟩⟩
set_option maxRecDepth 100000 in
set_option maxHeartbeats 4000000 in
theorem l_X12_is_26  (t0 : Int32) (σ : aSt) (o : Int32 × aSt) (h : f_X12_is_26  t0 σ = some o) : AW true m_X12_is 26 [] [.int (t0)] σ 0 0 (some (.int o.1)) o.2 := by
  unfold f_X12_is_26 at h
  replace h := e_grd h; obtain ⟨g4, h⟩ := h
  obtain rfl := Option.some.inj h
  exact w_zreturn dX12_is_26 rfl (e_nz g4) (Nat.le_of_ble_eq_true rfl) (Nat.le_of_ble_eq_true rfl)
set_option maxRecDepth 100000 in
set_option maxHeartbeats 4000000 in
theorem l_X12_is_25   (σ : aSt) (o : Int32 × aSt) (h : f_X12_is_25   σ = some o) : AW true m_X12_is 25 [] [] σ 0 0 (some (.int o.1)) o.2 := by
  unfold f_X12_is_25 at h
  refine w_iconst (v := 0) dX12_is_25 (by decide) ?_
  exact l_X12_is_26 _ _ _ h
set_option maxRecDepth 100000 in
set_option maxHeartbeats 4000000 in
theorem c_X12_is (p1 : Int32) (σ : aSt) (o : Int32 × aSt) (h : f_X12_is p1 σ = some o) : AM true m_X12_is [va_rf (some (57)), .int (p1)] σ (some (.int o.1)) o.2 := by
  refine AM_of2 (lv := [(0, va_rf (some (57))), (1, Value.int (p1))]) (by decide +kernel) rfl (Nat.le_of_ble_eq_true rfl) ?_
  unfold f_X12_is at h
  refine w_aload_n 0 ((some (57))) dX12_is_0 rfl rfl ?_
  refine w_get dX12_is_1 fl_RX12_200 ⟨rfl, Or.inr ⟨rfl, by decide⟩⟩ (aFv_i rfl) ?_
  refine w_iconst (v := 4) dX12_is_4 (by decide) ?_
  refine w_icmp_ne 25 dX12_is_5 (by decide) (fun c1 => ?_) (fun c1 => ?_)
  · replace h := e_f c1 h
    refine w_sub [] rfl ?_
    exact l_X12_is_25 _ _ h
  · replace h := e_t c1 h
    refine w_aload_n 0 ((some (57))) dX12_is_8 rfl rfl ?_
    refine w_get (v := va_rf (some 77)) dX12_is_9 fl_RX12_80 ⟨rfl, Or.inr ⟨rfl, by decide⟩⟩ (aFv_k rfl) ?_
    refine w_aload_n 0 ((some (57))) dX12_is_12 rfl rfl ?_
    refine w_get dX12_is_13 fl_RX12_197 ⟨rfl, Or.inr ⟨rfl, by decide⟩⟩ (aFv_i rfl) ?_
    replace h := e_grd h; obtain ⟨b2, h⟩ := h
    refine w_iaload dX12_is_16 ⟨rfl, Or.inr ⟨rfl, by decide⟩⟩ b2 ?_
    refine w_iload_n 1 dX12_is_17 rfl rfl ?_
    refine w_icmp_ne 25 dX12_is_18 (by decide) (fun c3 => ?_) (fun c3 => ?_)
    · replace h := e_f c3 h
      refine w_sub [] rfl ?_
      exact l_X12_is_25 _ _ h
    · replace h := e_t c3 h
      refine w_iconst (v := 1) dX12_is_21 (by decide) ?_
      refine w_goto 26 dX12_is_22 (by decide) ?_
      refine w_sub [] rfl ?_
      exact l_X12_is_26 _ _ _ h
theorem dX12_readTest_0 : decode cX12_readTest 0 = .ok (.bipush 12, 2) := by decide +kernel
theorem dX12_readTest_2 : decode cX12_readTest 2 = .ok (.aload_n 0, 1) := by decide +kernel
theorem dX12_readTest_3 : decode cX12_readTest 3 = .ok (.getfield 253, 3) := by decide +kernel
theorem dX12_readTest_6 : decode cX12_readTest 6 = .ok (.imul, 1) := by decide +kernel
theorem dX12_readTest_7 : decode cX12_readTest 7 = .ok (.iconst 3, 1) := by decide +kernel
theorem dX12_readTest_8 : decode cX12_readTest 8 = .ok (.iload_n 1, 1) := by decide +kernel
theorem dX12_readTest_9 : decode cX12_readTest 9 = .ok (.imul, 1) := by decide +kernel
theorem dX12_readTest_10 : decode cX12_readTest 10 = .ok (.iadd, 1) := by decide +kernel
theorem dX12_readTest_11 : decode cX12_readTest 11 = .ok (.istore_n 2, 1) := by decide +kernel
theorem dX12_readTest_12 : decode cX12_readTest 12 = .ok (.aload_n 0, 1) := by decide +kernel
theorem dX12_readTest_13 : decode cX12_readTest 13 = .ok (.invokevirtual 256, 3) := by decide +kernel
theorem dX12_readTest_16 : decode cX12_readTest 16 = .ok (.istore_n 3, 1) := by decide +kernel
theorem dX12_readTest_17 : decode cX12_readTest 17 = .ok (.aload_n 0, 1) := by decide +kernel
theorem dX12_readTest_18 : decode cX12_readTest 18 = .ok (.getfield 74, 3) := by decide +kernel
theorem dX12_readTest_21 : decode cX12_readTest 21 = .ok (.iload_n 2, 1) := by decide +kernel
theorem dX12_readTest_22 : decode cX12_readTest 22 = .ok (.iload_n 3, 1) := by decide +kernel
theorem dX12_readTest_23 : decode cX12_readTest 23 = .ok (.iastore, 1) := by decide +kernel
theorem dX12_readTest_24 : decode cX12_readTest 24 = .ok (.aload_n 0, 1) := by decide +kernel
theorem dX12_readTest_25 : decode cX12_readTest 25 = .ok (.iload_n 3, 1) := by decide +kernel
theorem dX12_readTest_26 : decode cX12_readTest 26 = .ok (.ldc 126, 2) := by decide +kernel
theorem dX12_readTest_28 : decode cX12_readTest 28 = .ok (.if_icmp .eq 7, 3) := by decide +kernel
theorem dX12_readTest_31 : decode cX12_readTest 31 = .ok (.iconst 1, 1) := by decide +kernel
theorem dX12_readTest_32 : decode cX12_readTest 32 = .ok (.goto 4, 3) := by decide +kernel
theorem dX12_readTest_35 : decode cX12_readTest 35 = .ok (.iconst 0, 1) := by decide +kernel
theorem dX12_readTest_36 : decode cX12_readTest 36 = .ok (.invokevirtual 225, 3) := by decide +kernel
theorem dX12_readTest_39 : decode cX12_readTest 39 = .ok (.aload_n 0, 1) := by decide +kernel
theorem dX12_readTest_40 : decode cX12_readTest 40 = .ok (.getfield 212, 3) := by decide +kernel
theorem dX12_readTest_43 : decode cX12_readTest 43 = .ok (.ifCond .le 4, 3) := by decide +kernel
theorem dX12_readTest_46 : decode cX12_readTest 46 = .ok (.return_, 1) := by decide +kernel
theorem dX12_readTest_47 : decode cX12_readTest 47 = .ok (.aload_n 0, 1) := by decide +kernel
theorem dX12_readTest_48 : decode cX12_readTest 48 = .ok (.bipush 60, 2) := by decide +kernel
theorem dX12_readTest_50 : decode cX12_readTest 50 = .ok (.invokevirtual 260, 3) := by decide +kernel
theorem dX12_readTest_53 : decode cX12_readTest 53 = .ok (.ifCond .ne 21, 3) := by decide +kernel
theorem dX12_readTest_56 : decode cX12_readTest 56 = .ok (.aload_n 0, 1) := by decide +kernel
theorem dX12_readTest_57 : decode cX12_readTest 57 = .ok (.bipush 62, 2) := by decide +kernel
theorem dX12_readTest_59 : decode cX12_readTest 59 = .ok (.invokevirtual 260, 3) := by decide +kernel
theorem dX12_readTest_62 : decode cX12_readTest 62 = .ok (.ifCond .ne 12, 3) := by decide +kernel
theorem dX12_readTest_65 : decode cX12_readTest 65 = .ok (.aload_n 0, 1) := by decide +kernel
theorem dX12_readTest_66 : decode cX12_readTest 66 = .ok (.bipush 61, 2) := by decide +kernel
theorem dX12_readTest_68 : decode cX12_readTest 68 = .ok (.invokevirtual 260, 3) := by decide +kernel
theorem dX12_readTest_71 : decode cX12_readTest 71 = .ok (.ifCond .eq 7, 3) := by decide +kernel
theorem dX12_readTest_74 : decode cX12_readTest 74 = .ok (.iconst 1, 1) := by decide +kernel
theorem dX12_readTest_75 : decode cX12_readTest 75 = .ok (.goto 4, 3) := by decide +kernel
theorem dX12_readTest_78 : decode cX12_readTest 78 = .ok (.iconst 0, 1) := by decide +kernel
theorem dX12_readTest_79 : decode cX12_readTest 79 = .ok (.istore 4, 2) := by decide +kernel
theorem dX12_readTest_81 : decode cX12_readTest 81 = .ok (.aload_n 0, 1) := by decide +kernel
theorem dX12_readTest_82 : decode cX12_readTest 82 = .ok (.getfield 74, 3) := by decide +kernel
theorem dX12_readTest_85 : decode cX12_readTest 85 = .ok (.iload_n 2, 1) := by decide +kernel
theorem dX12_readTest_86 : decode cX12_readTest 86 = .ok (.iconst 1, 1) := by decide +kernel
theorem dX12_readTest_87 : decode cX12_readTest 87 = .ok (.iadd, 1) := by decide +kernel
theorem dX12_readTest_88 : decode cX12_readTest 88 = .ok (.iload 4, 2) := by decide +kernel
theorem dX12_readTest_90 : decode cX12_readTest 90 = .ok (.ifCond .eq 15, 3) := by decide +kernel
theorem dX12_readTest_93 : decode cX12_readTest 93 = .ok (.aload_n 0, 1) := by decide +kernel
theorem dX12_readTest_94 : decode cX12_readTest 94 = .ok (.getfield 80, 3) := by decide +kernel
theorem dX12_readTest_97 : decode cX12_readTest 97 = .ok (.aload_n 0, 1) := by decide +kernel
theorem dX12_readTest_98 : decode cX12_readTest 98 = .ok (.getfield 197, 3) := by decide +kernel
theorem dX12_readTest_101 : decode cX12_readTest 101 = .ok (.iaload, 1) := by decide +kernel
theorem dX12_readTest_102 : decode cX12_readTest 102 = .ok (.goto 4, 3) := by decide +kernel
theorem dX12_readTest_105 : decode cX12_readTest 105 = .ok (.iconst 0, 1) := by decide +kernel
theorem dX12_readTest_106 : decode cX12_readTest 106 = .ok (.iastore, 1) := by decide +kernel
theorem dX12_readTest_107 : decode cX12_readTest 107 = .ok (.aload_n 0, 1) := by decide +kernel
theorem dX12_readTest_108 : decode cX12_readTest 108 = .ok (.iload 4, 2) := by decide +kernel
theorem dX12_readTest_110 : decode cX12_readTest 110 = .ok (.invokevirtual 225, 3) := by decide +kernel
theorem dX12_readTest_113 : decode cX12_readTest 113 = .ok (.aload_n 0, 1) := by decide +kernel
theorem dX12_readTest_114 : decode cX12_readTest 114 = .ok (.getfield 212, 3) := by decide +kernel
theorem dX12_readTest_117 : decode cX12_readTest 117 = .ok (.ifCond .ne 19, 3) := by decide +kernel
theorem dX12_readTest_120 : decode cX12_readTest 120 = .ok (.aload_n 0, 1) := by decide +kernel
theorem dX12_readTest_121 : decode cX12_readTest 121 = .ok (.getfield 74, 3) := by decide +kernel
theorem dX12_readTest_124 : decode cX12_readTest 124 = .ok (.iload_n 2, 1) := by decide +kernel
theorem dX12_readTest_125 : decode cX12_readTest 125 = .ok (.iconst 2, 1) := by decide +kernel
theorem dX12_readTest_126 : decode cX12_readTest 126 = .ok (.iadd, 1) := by decide +kernel
theorem dX12_readTest_127 : decode cX12_readTest 127 = .ok (.aload_n 0, 1) := by decide +kernel
theorem dX12_readTest_128 : decode cX12_readTest 128 = .ok (.iconst 0, 1) := by decide +kernel
theorem dX12_readTest_129 : decode cX12_readTest 129 = .ok (.ldc_w 263, 3) := by decide +kernel
theorem dX12_readTest_132 : decode cX12_readTest 132 = .ok (.invokevirtual 264, 3) := by decide +kernel
theorem dX12_readTest_135 : decode cX12_readTest 135 = .ok (.iastore, 1) := by decide +kernel
theorem dX12_readTest_136 : decode cX12_readTest 136 = .ok (.return_, 1) := by decide +kernel
theorem kd_X12_readTest : aKd m_X12_readTest 1 := ⟨wd_32_2, wd_1_5, ⟨by decide +kernel, by decide +kernel, by decide +kernel⟩⟩
set_option maxRecDepth 100000 in
set_option maxHeartbeats 4000000 in
theorem l_X12_readTest_136   (σ : aSt) (o : Unit × aSt) (h : f_X12_readTest_136   σ = some o) : AW true m_X12_readTest 136 [] [] σ 0 0 none o.2 := by
  unfold f_X12_readTest_136 at h
  obtain rfl := Option.some.inj h
  exact w_vreturn dX12_readTest_136 rfl (Nat.le_of_ble_eq_true rfl) (Nat.le_of_ble_eq_true rfl)
set_option maxRecDepth 100000 in
set_option maxHeartbeats 4000000 in
theorem l_X12_readTest_106  (x2 : Int32) (x4 : Int32) (t1 : Int32) (t2 : Int32) (σ : aSt) (o : Unit × aSt) (h : f_X12_readTest_106  x2 x4 t1 t2 σ = some o) : AW true m_X12_readTest 106 [(0, va_rf (some (57))), (2, Value.int (x2)), (4, Value.int (x4))] [.int (t2), .int (t1), va_rf (some (75))] σ 0 0 none o.2 := by
  unfold f_X12_readTest_106 at h
  replace h := e_grd h; obtain ⟨b5, h⟩ := h
  refine w_iastore dX12_readTest_106 ⟨rfl, Or.inr ⟨rfl, by decide⟩⟩ b5 ?_
  refine w_aload_n 0 ((some (57))) dX12_readTest_107 rfl rfl ?_
  refine w_iload 2 dX12_readTest_108 rfl ?_
  replace h := e_bind h; obtain ⟨q6, e7, h⟩ := h
  refine w_callV0 (M2 := m_X12_need) (av := [.int (x4)]) (ci := 12) (c_X12_need _ _ _ e7) dX12_readTest_110 kd_X12_need wd_31_15 wd_31_16 wd_31_17 rfl rfl ⟨rfl, Or.inr ⟨rfl, by decide⟩⟩ rfl ⟨Nat.le_of_ble_eq_true rfl, Nat.le_of_ble_eq_true rfl, Nat.le_of_ble_eq_true rfl, Nat.le_of_ble_eq_true rfl⟩ (Nat.le_of_ble_eq_true rfl) ?_
  refine w_aload_n 0 ((some (57))) dX12_readTest_113 rfl rfl ?_
  refine w_get dX12_readTest_114 fl_RX12_212 ⟨rfl, Or.inr ⟨rfl, by decide⟩⟩ (aFv_i rfl) ?_
  refine w_if_ne 136 dX12_readTest_117 (by decide) (fun c8 => ?_) (fun c8 => ?_)
  · replace h := e_f c8 h
    refine w_sub [] rfl ?_
    exact l_X12_readTest_136 _ _ h
  · replace h := e_t c8 h
    refine w_aload_n 0 ((some (57))) dX12_readTest_120 rfl rfl ?_
    refine w_get (v := va_rf (some 75)) dX12_readTest_121 fl_RX12_74 ⟨rfl, Or.inr ⟨rfl, by decide⟩⟩ (aFv_k rfl) ?_
    refine w_iload_n 1 dX12_readTest_124 rfl rfl ?_
    refine w_iconst (v := 2) dX12_readTest_125 (by decide) ?_
    refine w_iadd dX12_readTest_126 ?_
    refine w_aload_n 0 ((some (57))) dX12_readTest_127 rfl rfl ?_
    refine w_iconst (v := 0) dX12_readTest_128 (by decide) ?_
    refine w_ldcw (v := 999999) dX12_readTest_129 wd_32_3 ?_
    replace h := e_bind h; obtain ⟨q9, e10, h⟩ := h
    refine w_callV1 (M2 := m_X12_numberIn) (av := [.int (0), .int (999999)]) (ci := 12) (c_X12_numberIn _ _ _ _ e10) dX12_readTest_132 kd_X12_numberIn wd_31_19 wd_31_20 wd_31_21 rfl rfl ⟨rfl, Or.inr ⟨rfl, by decide⟩⟩ rfl ⟨Nat.le_of_ble_eq_true rfl, Nat.le_of_ble_eq_true rfl, Nat.le_of_ble_eq_true rfl, Nat.le_of_ble_eq_true rfl⟩ (Nat.le_of_ble_eq_true rfl) ?_
    replace h := e_grd h; obtain ⟨b11, h⟩ := h
    refine w_iastore dX12_readTest_135 ⟨rfl, Or.inr ⟨rfl, by decide⟩⟩ b11 ?_
    refine w_sub [] rfl ?_
    exact l_X12_readTest_136 _ _ h
set_option maxRecDepth 100000 in
set_option maxHeartbeats 4000000 in
theorem l_X12_readTest_79  (x2 : Int32) (t0 : Int32) (σ : aSt) (o : Unit × aSt) (h : f_X12_readTest_79  x2 t0 σ = some o) : AW true m_X12_readTest 79 [(0, va_rf (some (57))), (2, Value.int (x2))] [.int (t0)] σ 0 0 none o.2 := by
  unfold f_X12_readTest_79 at h
  refine w_istore dX12_readTest_79 (by decide) rfl ?_
  refine w_aload_n 1 ((some (57))) dX12_readTest_81 rfl rfl ?_
  refine w_get (v := va_rf (some 75)) dX12_readTest_82 fl_RX12_74 ⟨rfl, Or.inr ⟨rfl, by decide⟩⟩ (aFv_k rfl) ?_
  refine w_iload_n 2 dX12_readTest_85 rfl rfl ?_
  refine w_iconst (v := 1) dX12_readTest_86 (by decide) ?_
  refine w_iadd dX12_readTest_87 ?_
  refine w_iload 0 dX12_readTest_88 rfl ?_
  refine w_if_eq 105 dX12_readTest_90 (by decide) (fun c12 => ?_) (fun c12 => ?_)
  · replace h := e_t c12 h
    refine w_iconst (v := 0) dX12_readTest_105 (by decide) ?_
    refine w_sub [1, 2, 0] rfl ?_
    exact l_X12_readTest_106 _ _ _ _ _ _ h
  · replace h := e_f c12 h
    refine w_aload_n 1 ((some (57))) dX12_readTest_93 rfl rfl ?_
    refine w_get (v := va_rf (some 77)) dX12_readTest_94 fl_RX12_80 ⟨rfl, Or.inr ⟨rfl, by decide⟩⟩ (aFv_k rfl) ?_
    refine w_aload_n 1 ((some (57))) dX12_readTest_97 rfl rfl ?_
    refine w_get dX12_readTest_98 fl_RX12_197 ⟨rfl, Or.inr ⟨rfl, by decide⟩⟩ (aFv_i rfl) ?_
    replace h := e_grd h; obtain ⟨b13, h⟩ := h
    refine w_iaload dX12_readTest_101 ⟨rfl, Or.inr ⟨rfl, by decide⟩⟩ b13 ?_
    refine w_goto 106 dX12_readTest_102 (by decide) ?_
    refine w_sub [1, 2, 0] rfl ?_
    exact l_X12_readTest_106 _ _ _ _ _ _ h
set_option maxRecDepth 100000 in
set_option maxHeartbeats 4000000 in
theorem l_X12_readTest_74  (x2 : Int32) (σ : aSt) (o : Unit × aSt) (h : f_X12_readTest_74  x2 σ = some o) : AW true m_X12_readTest 74 [(0, va_rf (some (57))), (2, Value.int (x2))] [] σ 0 0 none o.2 := by
  unfold f_X12_readTest_74 at h
  refine w_iconst (v := 1) dX12_readTest_74 (by decide) ?_
  refine w_goto 79 dX12_readTest_75 (by decide) ?_
  exact l_X12_readTest_79 _ _ _ _ h
set_option maxRecDepth 100000 in
set_option maxHeartbeats 4000000 in
theorem l_X12_readTest_36  (x2 : Int32) (t1 : Int32) (σ : aSt) (o : Unit × aSt) (h : f_X12_readTest_36  x2 t1 σ = some o) : AW true m_X12_readTest 36 [(0, va_rf (some (57))), (2, Value.int (x2))] [.int (t1), va_rf (some (57))] σ 0 0 none o.2 := by
  unfold f_X12_readTest_36 at h
  replace h := e_bind h; obtain ⟨q14, e15, h⟩ := h
  refine w_callV0 (M2 := m_X12_need) (av := [.int (t1)]) (ci := 12) (c_X12_need _ _ _ e15) dX12_readTest_36 kd_X12_need wd_31_15 wd_31_16 wd_31_17 rfl rfl ⟨rfl, Or.inr ⟨rfl, by decide⟩⟩ rfl ⟨Nat.le_of_ble_eq_true rfl, Nat.le_of_ble_eq_true rfl, Nat.le_of_ble_eq_true rfl, Nat.le_of_ble_eq_true rfl⟩ (Nat.le_of_ble_eq_true rfl) ?_
  refine w_aload_n 0 ((some (57))) dX12_readTest_39 rfl rfl ?_
  refine w_get dX12_readTest_40 fl_RX12_212 ⟨rfl, Or.inr ⟨rfl, by decide⟩⟩ (aFv_i rfl) ?_
  refine w_if_le 47 dX12_readTest_43 (by decide) (fun c16 => ?_) (fun c16 => ?_)
  · replace h := e_t c16 h
    refine w_aload_n 0 ((some (57))) dX12_readTest_47 rfl rfl ?_
    refine w_bipush (v := 60) dX12_readTest_48 (by decide) ?_
    replace h := e_bind h; obtain ⟨q17, e18, h⟩ := h
    refine w_callV1 (M2 := m_X12_is) (av := [.int (60)]) (ci := 12) (c_X12_is _ _ _ e18) dX12_readTest_50 kd_X12_is wd_32_18 wd_32_19 wd_32_20 rfl rfl ⟨rfl, Or.inr ⟨rfl, by decide⟩⟩ rfl ⟨Nat.le_of_ble_eq_true rfl, Nat.le_of_ble_eq_true rfl, Nat.le_of_ble_eq_true rfl, Nat.le_of_ble_eq_true rfl⟩ (Nat.le_of_ble_eq_true rfl) ?_
    refine w_if_ne 74 dX12_readTest_53 (by decide) (fun c19 => ?_) (fun c19 => ?_)
    · replace h := e_f c19 h
      exact l_X12_readTest_74 _ _ _ h
    · replace h := e_t c19 h
      refine w_aload_n 0 ((some (57))) dX12_readTest_56 rfl rfl ?_
      refine w_bipush (v := 62) dX12_readTest_57 (by decide) ?_
      replace h := e_bind h; obtain ⟨q20, e21, h⟩ := h
      refine w_callV1 (M2 := m_X12_is) (av := [.int (62)]) (ci := 12) (c_X12_is _ _ _ e21) dX12_readTest_59 kd_X12_is wd_32_18 wd_32_19 wd_32_20 rfl rfl ⟨rfl, Or.inr ⟨rfl, by decide⟩⟩ rfl ⟨Nat.le_of_ble_eq_true rfl, Nat.le_of_ble_eq_true rfl, Nat.le_of_ble_eq_true rfl, Nat.le_of_ble_eq_true rfl⟩ (Nat.le_of_ble_eq_true rfl) ?_
      refine w_if_ne 74 dX12_readTest_62 (by decide) (fun c22 => ?_) (fun c22 => ?_)
      · replace h := e_f c22 h
        exact l_X12_readTest_74 _ _ _ h
      · replace h := e_t c22 h
        refine w_aload_n 0 ((some (57))) dX12_readTest_65 rfl rfl ?_
        refine w_bipush (v := 61) dX12_readTest_66 (by decide) ?_
        replace h := e_bind h; obtain ⟨q23, e24, h⟩ := h
        refine w_callV1 (M2 := m_X12_is) (av := [.int (61)]) (ci := 12) (c_X12_is _ _ _ e24) dX12_readTest_68 kd_X12_is wd_32_18 wd_32_19 wd_32_20 rfl rfl ⟨rfl, Or.inr ⟨rfl, by decide⟩⟩ rfl ⟨Nat.le_of_ble_eq_true rfl, Nat.le_of_ble_eq_true rfl, Nat.le_of_ble_eq_true rfl, Nat.le_of_ble_eq_true rfl⟩ (Nat.le_of_ble_eq_true rfl) ?_
        refine w_if_eq 78 dX12_readTest_71 (by decide) (fun c25 => ?_) (fun c25 => ?_)
        · replace h := e_t c25 h
          refine w_iconst (v := 0) dX12_readTest_78 (by decide) ?_
          exact l_X12_readTest_79 _ _ _ _ h
        · replace h := e_f c25 h
          exact l_X12_readTest_74 _ _ _ h
  · replace h := e_f c16 h
    obtain rfl := Option.some.inj h
    exact w_vreturn dX12_readTest_46 rfl (Nat.le_of_ble_eq_true rfl) (Nat.le_of_ble_eq_true rfl)
set_option maxRecDepth 100000 in
set_option maxHeartbeats 4000000 in
theorem c_X12_readTest (p1 : Int32) (σ : aSt) (o : Unit × aSt) (h : f_X12_readTest p1 σ = some o) : AM true m_X12_readTest [va_rf (some (57)), .int (p1)] σ none o.2 := by
  refine AM_of2 (lv := [(0, va_rf (some (57))), (1, Value.int (p1))]) (by decide +kernel) rfl (Nat.le_of_ble_eq_true rfl) ?_
  unfold f_X12_readTest at h
  refine w_bipush (v := 12) dX12_readTest_0 (by decide) ?_
  refine w_aload_n 0 ((some (57))) dX12_readTest_2 rfl rfl ?_
  refine w_get dX12_readTest_3 fl_RX12_253 ⟨rfl, Or.inr ⟨rfl, by decide⟩⟩ (aFv_i rfl) ?_
  refine w_imul dX12_readTest_6 ?_
  refine w_iconst (v := 3) dX12_readTest_7 (by decide) ?_
  refine w_iload_n 1 dX12_readTest_8 rfl rfl ?_
  refine w_imul dX12_readTest_9 ?_
  refine w_iadd dX12_readTest_10 ?_
  refine w_istore_n dX12_readTest_11 rfl (by decide) rfl ?_
  refine w_aload_n 1 ((some (57))) dX12_readTest_12 rfl rfl ?_
  replace h := e_bind h; obtain ⟨q1, e2, h⟩ := h
  refine w_callV1 (M2 := m_X12_featureOfWord) (av := []) (ci := 12) (c_X12_featureOfWord  _ _ e2) dX12_readTest_13 kd_X12_featureOfWord wd_32_4 wd_32_5 wd_32_6 rfl rfl ⟨rfl, Or.inr ⟨rfl, by decide⟩⟩ rfl ⟨Nat.le_of_ble_eq_true rfl, Nat.le_of_ble_eq_true rfl, Nat.le_of_ble_eq_true rfl, Nat.le_of_ble_eq_true rfl⟩ (Nat.le_of_ble_eq_true rfl) ?_
  refine w_istore_n dX12_readTest_16 rfl (by decide) rfl ?_
  refine w_aload_n 2 ((some (57))) dX12_readTest_17 rfl rfl ?_
  refine w_get (v := va_rf (some 75)) dX12_readTest_18 fl_RX12_74 ⟨rfl, Or.inr ⟨rfl, by decide⟩⟩ (aFv_k rfl) ?_
  refine w_iload_n 1 dX12_readTest_21 rfl rfl ?_
  refine w_iload_n 0 dX12_readTest_22 rfl rfl ?_
  replace h := e_grd h; obtain ⟨b3, h⟩ := h
  refine w_iastore dX12_readTest_23 ⟨rfl, Or.inr ⟨rfl, by decide⟩⟩ b3 ?_
  refine w_aload_n 2 ((some (57))) dX12_readTest_24 rfl rfl ?_
  refine w_iload_n 0 dX12_readTest_25 rfl rfl ?_
  refine w_ldc (v := (-1000000)) dX12_readTest_26 wd_15_11 ?_
  refine w_icmp_eq 35 dX12_readTest_28 (by decide) (fun c4 => ?_) (fun c4 => ?_)
  · replace h := e_t c4 h
    refine w_iconst (v := 0) dX12_readTest_35 (by decide) ?_
    refine w_sub [2, 1] rfl ?_
    exact l_X12_readTest_36 _ _ _ _ h
  · replace h := e_f c4 h
    refine w_iconst (v := 1) dX12_readTest_31 (by decide) ?_
    refine w_goto 36 dX12_readTest_32 (by decide) ?_
    refine w_sub [2, 1] rfl ?_
    exact l_X12_readTest_36 _ _ _ _ h
theorem dX12_readLine_0 : decode cX12_readLine 0 = .ok (.aload_n 0, 1) := by decide +kernel
theorem dX12_readLine_1 : decode cX12_readLine 1 = .ok (.invokevirtual 229, 3) := by decide +kernel
theorem dX12_readLine_4 : decode cX12_readLine 4 = .ok (.lstore_n 1, 1) := by decide +kernel
theorem dX12_readLine_5 : decode cX12_readLine 5 = .ok (.lload_n 1, 1) := by decide +kernel
theorem dX12_readLine_6 : decode cX12_readLine 6 = .ok (.ldc2_w 267, 3) := by decide +kernel
theorem dX12_readLine_9 : decode cX12_readLine 9 = .ok (.lcmp, 1) := by decide +kernel
theorem dX12_readLine_10 : decode cX12_readLine 10 = .ok (.ifCond .ne 17, 3) := by decide +kernel
theorem dX12_readLine_13 : decode cX12_readLine 13 = .ok (.aload_n 0, 1) := by decide +kernel
theorem dX12_readLine_14 : decode cX12_readLine 14 = .ok (.getfield 253, 3) := by decide +kernel
theorem dX12_readLine_17 : decode cX12_readLine 17 = .ok (.bipush 12, 2) := by decide +kernel
theorem dX12_readLine_19 : decode cX12_readLine 19 = .ok (.if_icmp .ne 8, 3) := by decide +kernel
theorem dX12_readLine_22 : decode cX12_readLine 22 = .ok (.aload_n 0, 1) := by decide +kernel
theorem dX12_readLine_23 : decode cX12_readLine 23 = .ok (.iconst 3, 1) := by decide +kernel
theorem dX12_readLine_24 : decode cX12_readLine 24 = .ok (.invokevirtual 218, 3) := by decide +kernel
theorem dX12_readLine_27 : decode cX12_readLine 27 = .ok (.lload_n 1, 1) := by decide +kernel
theorem dX12_readLine_28 : decode cX12_readLine 28 = .ok (.ldc2_w 269, 3) := by decide +kernel
theorem dX12_readLine_31 : decode cX12_readLine 31 = .ok (.lcmp, 1) := by decide +kernel
theorem dX12_readLine_32 : decode cX12_readLine 32 = .ok (.ifCond .ne 7, 3) := by decide +kernel
theorem dX12_readLine_35 : decode cX12_readLine 35 = .ok (.iconst 0, 1) := by decide +kernel
theorem dX12_readLine_36 : decode cX12_readLine 36 = .ok (.goto 41, 3) := by decide +kernel
theorem dX12_readLine_39 : decode cX12_readLine 39 = .ok (.lload_n 1, 1) := by decide +kernel
theorem dX12_readLine_40 : decode cX12_readLine 40 = .ok (.ldc2_w 271, 3) := by decide +kernel
theorem dX12_readLine_43 : decode cX12_readLine 43 = .ok (.lcmp, 1) := by decide +kernel
theorem dX12_readLine_44 : decode cX12_readLine 44 = .ok (.ifCond .ne 7, 3) := by decide +kernel
theorem dX12_readLine_47 : decode cX12_readLine 47 = .ok (.iconst 1, 1) := by decide +kernel
theorem dX12_readLine_48 : decode cX12_readLine 48 = .ok (.goto 29, 3) := by decide +kernel
theorem dX12_readLine_51 : decode cX12_readLine 51 = .ok (.lload_n 1, 1) := by decide +kernel
theorem dX12_readLine_52 : decode cX12_readLine 52 = .ok (.ldc2_w 273, 3) := by decide +kernel
theorem dX12_readLine_55 : decode cX12_readLine 55 = .ok (.lcmp, 1) := by decide +kernel
theorem dX12_readLine_56 : decode cX12_readLine 56 = .ok (.ifCond .ne 7, 3) := by decide +kernel
theorem dX12_readLine_59 : decode cX12_readLine 59 = .ok (.iconst 2, 1) := by decide +kernel
theorem dX12_readLine_60 : decode cX12_readLine 60 = .ok (.goto 17, 3) := by decide +kernel
theorem dX12_readLine_63 : decode cX12_readLine 63 = .ok (.lload_n 1, 1) := by decide +kernel
theorem dX12_readLine_64 : decode cX12_readLine 64 = .ok (.ldc2_w 275, 3) := by decide +kernel
theorem dX12_readLine_67 : decode cX12_readLine 67 = .ok (.lcmp, 1) := by decide +kernel
theorem dX12_readLine_68 : decode cX12_readLine 68 = .ok (.ifCond .ne 7, 3) := by decide +kernel
theorem dX12_readLine_71 : decode cX12_readLine 71 = .ok (.iconst 3, 1) := by decide +kernel
theorem dX12_readLine_72 : decode cX12_readLine 72 = .ok (.goto 5, 3) := by decide +kernel
theorem dX12_readLine_75 : decode cX12_readLine 75 = .ok (.ldc 126, 2) := by decide +kernel
theorem dX12_readLine_77 : decode cX12_readLine 77 = .ok (.istore_n 3, 1) := by decide +kernel
theorem dX12_readLine_78 : decode cX12_readLine 78 = .ok (.aload_n 0, 1) := by decide +kernel
theorem dX12_readLine_79 : decode cX12_readLine 79 = .ok (.iload_n 3, 1) := by decide +kernel
theorem dX12_readLine_80 : decode cX12_readLine 80 = .ok (.ldc 126, 2) := by decide +kernel
theorem dX12_readLine_82 : decode cX12_readLine 82 = .ok (.if_icmp .ne 11, 3) := by decide +kernel
theorem dX12_readLine_85 : decode cX12_readLine 85 = .ok (.lload_n 1, 1) := by decide +kernel
theorem dX12_readLine_86 : decode cX12_readLine 86 = .ok (.ldc2_w 267, 3) := by decide +kernel
theorem dX12_readLine_89 : decode cX12_readLine 89 = .ok (.lcmp, 1) := by decide +kernel
theorem dX12_readLine_90 : decode cX12_readLine 90 = .ok (.ifCond .ne 7, 3) := by decide +kernel
theorem dX12_readLine_93 : decode cX12_readLine 93 = .ok (.iconst 1, 1) := by decide +kernel
theorem dX12_readLine_94 : decode cX12_readLine 94 = .ok (.goto 4, 3) := by decide +kernel
theorem dX12_readLine_97 : decode cX12_readLine 97 = .ok (.iconst 0, 1) := by decide +kernel
theorem dX12_readLine_98 : decode cX12_readLine 98 = .ok (.invokevirtual 225, 3) := by decide +kernel
theorem dX12_readLine_101 : decode cX12_readLine 101 = .ok (.aload_n 0, 1) := by decide +kernel
theorem dX12_readLine_102 : decode cX12_readLine 102 = .ok (.getfield 212, 3) := by decide +kernel
theorem dX12_readLine_105 : decode cX12_readLine 105 = .ok (.ifCond .le 4, 3) := by decide +kernel
theorem dX12_readLine_108 : decode cX12_readLine 108 = .ok (.return_, 1) := by decide +kernel
theorem dX12_readLine_109 : decode cX12_readLine 109 = .ok (.iload_n 3, 1) := by decide +kernel
theorem dX12_readLine_110 : decode cX12_readLine 110 = .ok (.ldc 126, 2) := by decide +kernel
theorem dX12_readLine_112 : decode cX12_readLine 112 = .ok (.if_icmp .eq 40, 3) := by decide +kernel
theorem dX12_readLine_115 : decode cX12_readLine 115 = .ok (.aload_n 0, 1) := by decide +kernel
theorem dX12_readLine_116 : decode cX12_readLine 116 = .ok (.getfield 77, 3) := by decide +kernel
theorem dX12_readLine_119 : decode cX12_readLine 119 = .ok (.iload_n 3, 1) := by decide +kernel
theorem dX12_readLine_120 : decode cX12_readLine 120 = .ok (.aload_n 0, 1) := by decide +kernel
theorem dX12_readLine_121 : decode cX12_readLine 121 = .ok (.iload_n 3, 1) := by decide +kernel
theorem dX12_readLine_122 : decode cX12_readLine 122 = .ok (.iconst 2, 1) := by decide +kernel
theorem dX12_readLine_123 : decode cX12_readLine 123 = .ok (.if_icmp .ge 7, 3) := by decide +kernel
theorem dX12_readLine_126 : decode cX12_readLine 126 = .ok (.iconst 1, 1) := by decide +kernel
theorem dX12_readLine_127 : decode cX12_readLine 127 = .ok (.goto 4, 3) := by decide +kernel
theorem dX12_readLine_130 : decode cX12_readLine 130 = .ok (.iconst 0, 1) := by decide +kernel
theorem dX12_readLine_131 : decode cX12_readLine 131 = .ok (.iload_n 3, 1) := by decide +kernel
theorem dX12_readLine_132 : decode cX12_readLine 132 = .ok (.iconst 2, 1) := by decide +kernel
theorem dX12_readLine_133 : decode cX12_readLine 133 = .ok (.if_icmp .ge 9, 3) := by decide +kernel
theorem dX12_readLine_136 : decode cX12_readLine 136 = .ok (.ldc_w 277, 3) := by decide +kernel
theorem dX12_readLine_139 : decode cX12_readLine 139 = .ok (.goto 6, 3) := by decide +kernel
theorem dX12_readLine_142 : decode cX12_readLine 142 = .ok (.sipush 20000, 3) := by decide +kernel
theorem dX12_readLine_145 : decode cX12_readLine 145 = .ok (.invokevirtual 264, 3) := by decide +kernel
theorem dX12_readLine_148 : decode cX12_readLine 148 = .ok (.iastore, 1) := by decide +kernel
theorem dX12_readLine_149 : decode cX12_readLine 149 = .ok (.goto 134, 3) := by decide +kernel
theorem dX12_readLine_152 : decode cX12_readLine 152 = .ok (.aload_n 0, 1) := by decide +kernel
theorem dX12_readLine_153 : decode cX12_readLine 153 = .ok (.getfield 68, 3) := by decide +kernel
theorem dX12_readLine_156 : decode cX12_readLine 156 = .ok (.aload_n 0, 1) := by decide +kernel
theorem dX12_readLine_157 : decode cX12_readLine 157 = .ok (.getfield 253, 3) := by decide +kernel
theorem dX12_readLine_160 : decode cX12_readLine 160 = .ok (.aload_n 0, 1) := by decide +kernel
theorem dX12_readLine_161 : decode cX12_readLine 161 = .ok (.iconst 1, 1) := by decide +kernel
theorem dX12_readLine_162 : decode cX12_readLine 162 = .ok (.sipush 1000, 3) := by decide +kernel
theorem dX12_readLine_165 : decode cX12_readLine 165 = .ok (.invokevirtual 264, 3) := by decide +kernel
theorem dX12_readLine_168 : decode cX12_readLine 168 = .ok (.iastore, 1) := by decide +kernel
theorem dX12_readLine_169 : decode cX12_readLine 169 = .ok (.aload_n 0, 1) := by decide +kernel
theorem dX12_readLine_170 : decode cX12_readLine 170 = .ok (.getfield 212, 3) := by decide +kernel
theorem dX12_readLine_173 : decode cX12_readLine 173 = .ok (.ifCond .ne 23, 3) := by decide +kernel
theorem dX12_readLine_176 : decode cX12_readLine 176 = .ok (.aload_n 0, 1) := by decide +kernel
theorem dX12_readLine_177 : decode cX12_readLine 177 = .ok (.aload_n 0, 1) := by decide +kernel
theorem dX12_readLine_178 : decode cX12_readLine 178 = .ok (.invokevirtual 229, 3) := by decide +kernel
theorem dX12_readLine_181 : decode cX12_readLine 181 = .ok (.ldc2_w 278, 3) := by decide +kernel
theorem dX12_readLine_184 : decode cX12_readLine 184 = .ok (.lcmp, 1) := by decide +kernel
theorem dX12_readLine_185 : decode cX12_readLine 185 = .ok (.ifCond .ne 7, 3) := by decide +kernel
theorem dX12_readLine_188 : decode cX12_readLine 188 = .ok (.iconst 1, 1) := by decide +kernel
theorem dX12_readLine_189 : decode cX12_readLine 189 = .ok (.goto 4, 3) := by decide +kernel
theorem dX12_readLine_192 : decode cX12_readLine 192 = .ok (.iconst 0, 1) := by decide +kernel
theorem dX12_readLine_193 : decode cX12_readLine 193 = .ok (.invokevirtual 225, 3) := by decide +kernel
theorem dX12_readLine_196 : decode cX12_readLine 196 = .ok (.iconst 0, 1) := by decide +kernel
theorem dX12_readLine_197 : decode cX12_readLine 197 = .ok (.istore 4, 2) := by decide +kernel
theorem dX12_readLine_199 : decode cX12_readLine 199 = .ok (.aload_n 0, 1) := by decide +kernel
theorem dX12_readLine_200 : decode cX12_readLine 200 = .ok (.getfield 212, 3) := by decide +kernel
theorem dX12_readLine_203 : decode cX12_readLine 203 = .ok (.ifCond .ne 11, 3) := by decide +kernel
theorem dX12_readLine_206 : decode cX12_readLine 206 = .ok (.aload_n 0, 1) := by decide +kernel
theorem dX12_readLine_207 : decode cX12_readLine 207 = .ok (.iconst 0, 1) := by decide +kernel
theorem dX12_readLine_208 : decode cX12_readLine 208 = .ok (.invokevirtual 280, 3) := by decide +kernel
theorem dX12_readLine_211 : decode cX12_readLine 211 = .ok (.iconst 1, 1) := by decide +kernel
theorem dX12_readLine_212 : decode cX12_readLine 212 = .ok (.istore 4, 2) := by decide +kernel
theorem dX12_readLine_214 : decode cX12_readLine 214 = .ok (.aload_n 0, 1) := by decide +kernel
theorem dX12_readLine_215 : decode cX12_readLine 215 = .ok (.getfield 212, 3) := by decide +kernel
theorem dX12_readLine_218 : decode cX12_readLine 218 = .ok (.ifCond .ne 44, 3) := by decide +kernel
theorem dX12_readLine_221 : decode cX12_readLine 221 = .ok (.aload_n 0, 1) := by decide +kernel
theorem dX12_readLine_222 : decode cX12_readLine 222 = .ok (.invokevirtual 229, 3) := by decide +kernel
theorem dX12_readLine_225 : decode cX12_readLine 225 = .ok (.ldc2_w 283, 3) := by decide +kernel
theorem dX12_readLine_228 : decode cX12_readLine 228 = .ok (.lcmp, 1) := by decide +kernel
theorem dX12_readLine_229 : decode cX12_readLine 229 = .ok (.ifCond .ne 33, 3) := by decide +kernel
theorem dX12_readLine_232 : decode cX12_readLine 232 = .ok (.iload 4, 2) := by decide +kernel
theorem dX12_readLine_234 : decode cX12_readLine 234 = .ok (.iconst 4, 1) := by decide +kernel
theorem dX12_readLine_235 : decode cX12_readLine 235 = .ok (.if_icmp .ne 11, 3) := by decide +kernel
theorem dX12_readLine_238 : decode cX12_readLine 238 = .ok (.aload_n 0, 1) := by decide +kernel
theorem dX12_readLine_239 : decode cX12_readLine 239 = .ok (.iconst 3, 1) := by decide +kernel
theorem dX12_readLine_240 : decode cX12_readLine 240 = .ok (.invokevirtual 218, 3) := by decide +kernel
theorem dX12_readLine_243 : decode cX12_readLine 243 = .ok (.goto (-29), 3) := by decide +kernel
theorem dX12_readLine_246 : decode cX12_readLine 246 = .ok (.aload_n 0, 1) := by decide +kernel
theorem dX12_readLine_247 : decode cX12_readLine 247 = .ok (.invokevirtual 222, 3) := by decide +kernel
theorem dX12_readLine_250 : decode cX12_readLine 250 = .ok (.aload_n 0, 1) := by decide +kernel
theorem dX12_readLine_251 : decode cX12_readLine 251 = .ok (.iload 4, 2) := by decide +kernel
theorem dX12_readLine_253 : decode cX12_readLine 253 = .ok (.invokevirtual 280, 3) := by decide +kernel
theorem dX12_readLine_256 : decode cX12_readLine 256 = .ok (.iinc 4 1, 3) := by decide +kernel
theorem dX12_readLine_259 : decode cX12_readLine 259 = .ok (.goto (-45), 3) := by decide +kernel
theorem dX12_readLine_262 : decode cX12_readLine 262 = .ok (.aload_n 0, 1) := by decide +kernel
theorem dX12_readLine_263 : decode cX12_readLine 263 = .ok (.getfield 71, 3) := by decide +kernel
theorem dX12_readLine_266 : decode cX12_readLine 266 = .ok (.aload_n 0, 1) := by decide +kernel
theorem dX12_readLine_267 : decode cX12_readLine 267 = .ok (.getfield 253, 3) := by decide +kernel
theorem dX12_readLine_270 : decode cX12_readLine 270 = .ok (.iload 4, 2) := by decide +kernel
theorem dX12_readLine_272 : decode cX12_readLine 272 = .ok (.iastore, 1) := by decide +kernel
theorem dX12_readLine_273 : decode cX12_readLine 273 = .ok (.aload_n 0, 1) := by decide +kernel
theorem dX12_readLine_274 : decode cX12_readLine 274 = .ok (.dup, 1) := by decide +kernel
theorem dX12_readLine_275 : decode cX12_readLine 275 = .ok (.getfield 253, 3) := by decide +kernel
theorem dX12_readLine_278 : decode cX12_readLine 278 = .ok (.iconst 1, 1) := by decide +kernel
theorem dX12_readLine_279 : decode cX12_readLine 279 = .ok (.iadd, 1) := by decide +kernel
theorem dX12_readLine_280 : decode cX12_readLine 280 = .ok (.putfield 253, 3) := by decide +kernel
theorem dX12_readLine_283 : decode cX12_readLine 283 = .ok (.aload_n 0, 1) := by decide +kernel
theorem dX12_readLine_284 : decode cX12_readLine 284 = .ok (.getfield 212, 3) := by decide +kernel
theorem dX12_readLine_287 : decode cX12_readLine 287 = .ok (.ifCond .ne 13, 3) := by decide +kernel
theorem dX12_readLine_290 : decode cX12_readLine 290 = .ok (.aload_n 0, 1) := by decide +kernel
theorem dX12_readLine_291 : decode cX12_readLine 291 = .ok (.aload_n 0, 1) := by decide +kernel
theorem dX12_readLine_292 : decode cX12_readLine 292 = .ok (.bipush 59, 2) := by decide +kernel
theorem dX12_readLine_294 : decode cX12_readLine 294 = .ok (.invokevirtual 260, 3) := by decide +kernel
theorem dX12_readLine_297 : decode cX12_readLine 297 = .ok (.invokevirtual 225, 3) := by decide +kernel
theorem dX12_readLine_300 : decode cX12_readLine 300 = .ok (.return_, 1) := by decide +kernel
theorem kd_X12_readLine : aKd m_X12_readLine 0 := ⟨wd_30_22, wd_1_5, ⟨by decide +kernel, by decide +kernel, by decide +kernel⟩⟩
set_option maxRecDepth 100000 in
set_option maxHeartbeats 4000000 in
theorem l_X12_readLine_300   (σ : aSt) (o : Unit × aSt) (h : f_X12_readLine_300   σ = some o) : AW true m_X12_readLine 300 [] [] σ 0 0 none o.2 := by
  unfold f_X12_readLine_300 at h
  obtain rfl := Option.some.inj h
  exact w_vreturn dX12_readLine_300 rfl (Nat.le_of_ble_eq_true rfl) (Nat.le_of_ble_eq_true rfl)
set_option maxRecDepth 100000 in
set_option maxHeartbeats 4000000 in
theorem l_X12_readLine_283   (σ : aSt) (o : Unit × aSt) (h : f_X12_readLine_283   σ = some o) : AW true m_X12_readLine 283 [(0, va_rf (some (57)))] [] σ 0 0 none o.2 := by
  unfold f_X12_readLine_283 at h
  refine w_aload_n 0 ((some (57))) dX12_readLine_283 rfl rfl ?_
  refine w_get dX12_readLine_284 fl_RX12_212 ⟨rfl, Or.inr ⟨rfl, by decide⟩⟩ (aFv_i rfl) ?_
  refine w_if_ne 300 dX12_readLine_287 (by decide) (fun c7 => ?_) (fun c7 => ?_)
  · replace h := e_f c7 h
    refine w_sub [] rfl ?_
    exact l_X12_readLine_300 _ _ h
  · replace h := e_t c7 h
    refine w_aload_n 0 ((some (57))) dX12_readLine_290 rfl rfl ?_
    refine w_aload_n 0 ((some (57))) dX12_readLine_291 rfl rfl ?_
    refine w_bipush (v := 59) dX12_readLine_292 (by decide) ?_
    replace h := e_bind h; obtain ⟨q8, e9, h⟩ := h
    refine w_callV1 (M2 := m_X12_is) (av := [.int (59)]) (ci := 12) (c_X12_is _ _ _ e9) dX12_readLine_294 kd_X12_is wd_32_18 wd_32_19 wd_32_20 rfl rfl ⟨rfl, Or.inr ⟨rfl, by decide⟩⟩ rfl ⟨Nat.le_of_ble_eq_true rfl, Nat.le_of_ble_eq_true rfl, Nat.le_of_ble_eq_true rfl, Nat.le_of_ble_eq_true rfl⟩ (Nat.le_of_ble_eq_true rfl) ?_
    replace h := e_bind h; obtain ⟨q10, e11, h⟩ := h
    refine w_callV0 (M2 := m_X12_need) (av := [.int (q8.1)]) (ci := 12) (c_X12_need _ _ _ e11) dX12_readLine_297 kd_X12_need wd_31_15 wd_31_16 wd_31_17 rfl rfl ⟨rfl, Or.inr ⟨rfl, by decide⟩⟩ rfl ⟨Nat.le_of_ble_eq_true rfl, Nat.le_of_ble_eq_true rfl, Nat.le_of_ble_eq_true rfl, Nat.le_of_ble_eq_true rfl⟩ (Nat.le_of_ble_eq_true rfl) ?_
    refine w_sub [] rfl ?_
    exact l_X12_readLine_300 _ _ h
set_option maxRecDepth 100000 in
set_option maxHeartbeats 4000000 in
theorem l_X12_readLine_145  (t1 : Int32) (t3 : Int32) (t4 : Int32) (σ : aSt) (o : Unit × aSt) (h : f_X12_readLine_145  t1 t3 t4 σ = some o) : AW true m_X12_readLine 145 [(0, va_rf (some (57)))] [.int (t4), .int (t3), va_rf (some (57)), .int (t1), va_rf (some (76))] σ 0 0 none o.2 := by
  unfold f_X12_readLine_145 at h
  replace h := e_bind h; obtain ⟨q29, e30, h⟩ := h
  refine w_callV1 (M2 := m_X12_numberIn) (av := [.int (t3), .int (t4)]) (ci := 12) (c_X12_numberIn _ _ _ _ e30) dX12_readLine_145 kd_X12_numberIn wd_31_19 wd_31_20 wd_31_21 rfl rfl ⟨rfl, Or.inr ⟨rfl, by decide⟩⟩ rfl ⟨Nat.le_of_ble_eq_true rfl, Nat.le_of_ble_eq_true rfl, Nat.le_of_ble_eq_true rfl, Nat.le_of_ble_eq_true rfl⟩ (Nat.le_of_ble_eq_true rfl) ?_
  replace h := e_grd h; obtain ⟨b31, h⟩ := h
  refine w_iastore dX12_readLine_148 ⟨rfl, Or.inr ⟨rfl, by decide⟩⟩ b31 ?_
  refine w_goto 283 dX12_readLine_149 (by decide) ?_
  exact l_X12_readLine_283 _ _ h
set_option maxRecDepth 100000 in
set_option maxHeartbeats 4000000 in
theorem l_X12_readLine_131  (x3 : Int32) (t1 : Int32) (t3 : Int32) (σ : aSt) (o : Unit × aSt) (h : f_X12_readLine_131  x3 t1 t3 σ = some o) : AW true m_X12_readLine 131 [(0, va_rf (some (57))), (3, Value.int (x3))] [.int (t3), va_rf (some (57)), .int (t1), va_rf (some (76))] σ 0 0 none o.2 := by
  unfold f_X12_readLine_131 at h
  refine w_iload_n 1 dX12_readLine_131 rfl rfl ?_
  refine w_iconst (v := 2) dX12_readLine_132 (by decide) ?_
  refine w_icmp_ge 142 dX12_readLine_133 (by decide) (fun c32 => ?_) (fun c32 => ?_)
  · replace h := e_t c32 h
    refine w_sipush (v := 20000) dX12_readLine_142 (by decide) ?_
    refine w_sub [0] rfl ?_
    exact l_X12_readLine_145 _ _ _ _ _ h
  · replace h := e_f c32 h
    refine w_ldcw (v := 100000) dX12_readLine_136 wd_31_4 ?_
    refine w_goto 145 dX12_readLine_139 (by decide) ?_
    refine w_sub [0] rfl ?_
    exact l_X12_readLine_145 _ _ _ _ _ h
set_option maxRecDepth 100000 in
set_option maxHeartbeats 4000000 in
theorem l_X12_readLine_262  (x4 : Int32) (σ : aSt) (o : Unit × aSt) (h : f_X12_readLine_262  x4 σ = some o) : AW true m_X12_readLine 262 [(0, va_rf (some (57))), (4, Value.int (x4))] [] σ 0 0 none o.2 := by
  unfold f_X12_readLine_262 at h
  refine w_aload_n 0 ((some (57))) dX12_readLine_262 rfl rfl ?_
  refine w_get (v := va_rf (some 74)) dX12_readLine_263 fl_RX12_71 ⟨rfl, Or.inr ⟨rfl, by decide⟩⟩ (aFv_k rfl) ?_
  refine w_aload_n 0 ((some (57))) dX12_readLine_266 rfl rfl ?_
  refine w_get dX12_readLine_267 fl_RX12_253 ⟨rfl, Or.inr ⟨rfl, by decide⟩⟩ (aFv_i rfl) ?_
  refine w_iload 1 dX12_readLine_270 rfl ?_
  replace h := e_grd h; obtain ⟨b12, h⟩ := h
  refine w_iastore dX12_readLine_272 ⟨rfl, Or.inr ⟨rfl, by decide⟩⟩ b12 ?_
  refine w_aload_n 0 ((some (57))) dX12_readLine_273 rfl rfl ?_
  refine w_dup dX12_readLine_274 (aRf_cat _) ?_
  refine w_get dX12_readLine_275 fl_RX12_253 ⟨rfl, Or.inr ⟨rfl, by decide⟩⟩ (aFv_i rfl) ?_
  refine w_iconst (v := 1) dX12_readLine_278 (by decide) ?_
  refine w_iadd dX12_readLine_279 ?_
  refine w_putI dX12_readLine_280 fl_RX12_253 (Or.inl rfl) rfl ⟨rfl, Or.inr ⟨rfl, by decide⟩⟩ ?_
  refine w_sub [0] rfl ?_
  exact l_X12_readLine_283 _ _ h
set_option maxRecDepth 100000 in
set_option maxHeartbeats 4000000 in
theorem l_X12_readLine_214_b (rec214 : Int32 → aSt → Option (Unit × aSt)) (hrec214 : ∀ (x4 : Int32) (σ : aSt) (o : Unit × aSt), rec214 x4 σ = some o → AW true m_X12_readLine 214 [(0, va_rf (some (57))), (4, Value.int (x4))] [] σ 0 0 none o.2) (x4 : Int32) (σ : aSt) (o : Unit × aSt) (h : f_X12_readLine_214_b rec214 x4 σ = some o) : AW true m_X12_readLine 214 [(0, va_rf (some (57))), (4, Value.int (x4))] [] σ 0 0 none o.2 := by
  unfold f_X12_readLine_214_b at h
  refine w_aload_n 0 ((some (57))) dX12_readLine_214 rfl rfl ?_
  refine w_get dX12_readLine_215 fl_RX12_212 ⟨rfl, Or.inr ⟨rfl, by decide⟩⟩ (aFv_i rfl) ?_
  refine w_if_ne 262 dX12_readLine_218 (by decide) (fun c13 => ?_) (fun c13 => ?_)
  · replace h := e_f c13 h
    exact l_X12_readLine_262 _ _ _ h
  · replace h := e_t c13 h
    refine w_aload_n 0 ((some (57))) dX12_readLine_221 rfl rfl ?_
    replace h := e_bind h; obtain ⟨q14, e15, h⟩ := h
    refine w_callV1 (M2 := m_X12_word) (av := []) (ci := 12) (c_X12_word  _ _ e15) dX12_readLine_222 kd_X12_word wd_31_7 wd_31_8 wd_31_9 rfl rfl ⟨rfl, Or.inr ⟨rfl, by decide⟩⟩ rfl ⟨Nat.le_of_ble_eq_true rfl, Nat.le_of_ble_eq_true rfl, Nat.le_of_ble_eq_true rfl, Nat.le_of_ble_eq_true rfl⟩ (Nat.le_of_ble_eq_true rfl) ?_
    refine w_ldc2 (v := 6385252) dX12_readLine_225 wd_31_6 ?_
    refine w_lcmp dX12_readLine_228 ?_
    refine w_if_ne 262 dX12_readLine_229 (by decide) (fun c16 => ?_) (fun c16 => ?_)
    · replace h := e_f c16 h
      exact l_X12_readLine_262 _ _ _ h
    · replace h := e_t c16 h
      refine w_iload 1 dX12_readLine_232 rfl ?_
      refine w_iconst (v := 4) dX12_readLine_234 (by decide) ?_
      refine w_icmp_ne 246 dX12_readLine_235 (by decide) (fun c17 => ?_) (fun c17 => ?_)
      · replace h := e_f c17 h
        refine w_aload_n 0 ((some (57))) dX12_readLine_246 rfl rfl ?_
        replace h := e_bind h; obtain ⟨q18, e19, h⟩ := h
        refine w_callV0 (M2 := m_X12_step) (av := []) (ci := 12) (c_X12_step  _ _ e19) dX12_readLine_247 kd_X12_step wd_30_3 wd_30_4 wd_30_5 rfl rfl ⟨rfl, Or.inr ⟨rfl, by decide⟩⟩ rfl ⟨Nat.le_of_ble_eq_true rfl, Nat.le_of_ble_eq_true rfl, Nat.le_of_ble_eq_true rfl, Nat.le_of_ble_eq_true rfl⟩ (Nat.le_of_ble_eq_true rfl) ?_
        refine w_aload_n 0 ((some (57))) dX12_readLine_250 rfl rfl ?_
        refine w_iload 1 dX12_readLine_251 rfl ?_
        replace h := e_bind h; obtain ⟨q20, e21, h⟩ := h
        refine w_callV0 (M2 := m_X12_readTest) (av := [.int (x4)]) (ci := 12) (c_X12_readTest _ _ _ e21) dX12_readLine_253 kd_X12_readTest wd_31_23 wd_32_0 wd_32_1 rfl rfl ⟨rfl, Or.inr ⟨rfl, by decide⟩⟩ rfl ⟨Nat.le_of_ble_eq_true rfl, Nat.le_of_ble_eq_true rfl, Nat.le_of_ble_eq_true rfl, Nat.le_of_ble_eq_true rfl⟩ (Nat.le_of_ble_eq_true rfl) ?_
        refine w_iinc (q := 1) (v := x4 + 1) dX12_readLine_256 rfl rfl (by decide) rfl ?_
        refine w_goto 214 dX12_readLine_259 (by decide) ?_
        refine w_sub [1, 0] rfl ?_
        exact hrec214 _ _ _ h
      · replace h := e_t c17 h
        refine w_aload_n 0 ((some (57))) dX12_readLine_238 rfl rfl ?_
        refine w_iconst (v := 3) dX12_readLine_239 (by decide) ?_
        replace h := e_bind h; obtain ⟨q22, e23, h⟩ := h
        refine w_callV0 (M2 := m_X12_bad) (av := [.int (3)]) (ci := 12) (c_X12_bad _ _ _ e23) dX12_readLine_240 kd_X12_bad wd_31_11 wd_31_12 wd_31_13 rfl rfl ⟨rfl, Or.inr ⟨rfl, by decide⟩⟩ rfl ⟨Nat.le_of_ble_eq_true rfl, Nat.le_of_ble_eq_true rfl, Nat.le_of_ble_eq_true rfl, Nat.le_of_ble_eq_true rfl⟩ (Nat.le_of_ble_eq_true rfl) ?_
        refine w_goto 214 dX12_readLine_243 (by decide) ?_
        exact hrec214 _ _ _ h
theorem l_X12_readLine_214  : ∀ (n : Nat) (x4 : Int32) (σ : aSt) (o : Unit × aSt), f_X12_readLine_214  n x4 σ = some o → AW true m_X12_readLine 214 [(0, va_rf (some (57))), (4, Value.int (x4))] [] σ 0 0 none o.2
  | 0 => fun x4 σ o h => by cases h
  | n + 1 => fun x4 σ o h => l_X12_readLine_214_b (f_X12_readLine_214  n) (l_X12_readLine_214  n) x4 σ o h
set_option maxRecDepth 100000 in
set_option maxHeartbeats 4000000 in
theorem l_X12_readLine_196   (σ : aSt) (o : Unit × aSt) (h : f_X12_readLine_196   σ = some o) : AW true m_X12_readLine 196 [(0, va_rf (some (57)))] [] σ 0 0 none o.2 := by
  unfold f_X12_readLine_196 at h
  refine w_iconst (v := 0) dX12_readLine_196 (by decide) ?_
  refine w_istore dX12_readLine_197 (by decide) rfl ?_
  refine w_aload_n 1 ((some (57))) dX12_readLine_199 rfl rfl ?_
  refine w_get dX12_readLine_200 fl_RX12_212 ⟨rfl, Or.inr ⟨rfl, by decide⟩⟩ (aFv_i rfl) ?_
  refine w_if_ne 214 dX12_readLine_203 (by decide) (fun c24 => ?_) (fun c24 => ?_)
  · replace h := e_f c24 h
    refine w_sub [1, 0] rfl ?_
    exact l_X12_readLine_214 aN _ _ _ h
  · replace h := e_t c24 h
    refine w_aload_n 1 ((some (57))) dX12_readLine_206 rfl rfl ?_
    refine w_iconst (v := 0) dX12_readLine_207 (by decide) ?_
    replace h := e_bind h; obtain ⟨q25, e26, h⟩ := h
    refine w_callV0 (M2 := m_X12_readTest) (av := [.int (0)]) (ci := 12) (c_X12_readTest _ _ _ e26) dX12_readLine_208 kd_X12_readTest wd_31_23 wd_32_0 wd_32_1 rfl rfl ⟨rfl, Or.inr ⟨rfl, by decide⟩⟩ rfl ⟨Nat.le_of_ble_eq_true rfl, Nat.le_of_ble_eq_true rfl, Nat.le_of_ble_eq_true rfl, Nat.le_of_ble_eq_true rfl⟩ (Nat.le_of_ble_eq_true rfl) ?_
    refine w_iconst (v := 1) dX12_readLine_211 (by decide) ?_
    refine w_istore dX12_readLine_212 (by decide) rfl ?_
    refine w_sub [1, 0] rfl ?_
    exact l_X12_readLine_214 aN _ _ _ h
set_option maxRecDepth 100000 in
set_option maxHeartbeats 4000000 in
theorem l_X12_readLine_193  (t1 : Int32) (σ : aSt) (o : Unit × aSt) (h : f_X12_readLine_193  t1 σ = some o) : AW true m_X12_readLine 193 [(0, va_rf (some (57)))] [.int (t1), va_rf (some (57))] σ 0 0 none o.2 := by
  unfold f_X12_readLine_193 at h
  replace h := e_bind h; obtain ⟨q27, e28, h⟩ := h
  refine w_callV0 (M2 := m_X12_need) (av := [.int (t1)]) (ci := 12) (c_X12_need _ _ _ e28) dX12_readLine_193 kd_X12_need wd_31_15 wd_31_16 wd_31_17 rfl rfl ⟨rfl, Or.inr ⟨rfl, by decide⟩⟩ rfl ⟨Nat.le_of_ble_eq_true rfl, Nat.le_of_ble_eq_true rfl, Nat.le_of_ble_eq_true rfl, Nat.le_of_ble_eq_true rfl⟩ (Nat.le_of_ble_eq_true rfl) ?_
  exact l_X12_readLine_196 _ _ h
set_option maxRecDepth 100000 in
set_option maxHeartbeats 4000000 in
theorem l_X12_readLine_98  (x3 : Int32) (t1 : Int32) (σ : aSt) (o : Unit × aSt) (h : f_X12_readLine_98  x3 t1 σ = some o) : AW true m_X12_readLine 98 [(0, va_rf (some (57))), (3, Value.int (x3))] [.int (t1), va_rf (some (57))] σ 0 0 none o.2 := by
  unfold f_X12_readLine_98 at h
  replace h := e_bind h; obtain ⟨q33, e34, h⟩ := h
  refine w_callV0 (M2 := m_X12_need) (av := [.int (t1)]) (ci := 12) (c_X12_need _ _ _ e34) dX12_readLine_98 kd_X12_need wd_31_15 wd_31_16 wd_31_17 rfl rfl ⟨rfl, Or.inr ⟨rfl, by decide⟩⟩ rfl ⟨Nat.le_of_ble_eq_true rfl, Nat.le_of_ble_eq_true rfl, Nat.le_of_ble_eq_true rfl, Nat.le_of_ble_eq_true rfl⟩ (Nat.le_of_ble_eq_true rfl) ?_
  refine w_aload_n 0 ((some (57))) dX12_readLine_101 rfl rfl ?_
  refine w_get dX12_readLine_102 fl_RX12_212 ⟨rfl, Or.inr ⟨rfl, by decide⟩⟩ (aFv_i rfl) ?_
  refine w_if_le 109 dX12_readLine_105 (by decide) (fun c35 => ?_) (fun c35 => ?_)
  · replace h := e_t c35 h
    refine w_iload_n 1 dX12_readLine_109 rfl rfl ?_
    refine w_ldc (v := (-1000000)) dX12_readLine_110 wd_15_11 ?_
    refine w_icmp_eq 152 dX12_readLine_112 (by decide) (fun c36 => ?_) (fun c36 => ?_)
    · replace h := e_t c36 h
      refine w_aload_n 0 ((some (57))) dX12_readLine_152 rfl rfl ?_
      refine w_get (v := va_rf (some 73)) dX12_readLine_153 fl_RX12_68 ⟨rfl, Or.inr ⟨rfl, by decide⟩⟩ (aFv_k rfl) ?_
      refine w_aload_n 0 ((some (57))) dX12_readLine_156 rfl rfl ?_
      refine w_get dX12_readLine_157 fl_RX12_253 ⟨rfl, Or.inr ⟨rfl, by decide⟩⟩ (aFv_i rfl) ?_
      refine w_aload_n 0 ((some (57))) dX12_readLine_160 rfl rfl ?_
      refine w_iconst (v := 1) dX12_readLine_161 (by decide) ?_
      refine w_sipush (v := 1000) dX12_readLine_162 (by decide) ?_
      replace h := e_bind h; obtain ⟨q37, e38, h⟩ := h
      refine w_callV1 (M2 := m_X12_numberIn) (av := [.int (1), .int (1000)]) (ci := 12) (c_X12_numberIn _ _ _ _ e38) dX12_readLine_165 kd_X12_numberIn wd_31_19 wd_31_20 wd_31_21 rfl rfl ⟨rfl, Or.inr ⟨rfl, by decide⟩⟩ rfl ⟨Nat.le_of_ble_eq_true rfl, Nat.le_of_ble_eq_true rfl, Nat.le_of_ble_eq_true rfl, Nat.le_of_ble_eq_true rfl⟩ (Nat.le_of_ble_eq_true rfl) ?_
      replace h := e_grd h; obtain ⟨b39, h⟩ := h
      refine w_iastore dX12_readLine_168 ⟨rfl, Or.inr ⟨rfl, by decide⟩⟩ b39 ?_
      refine w_aload_n 0 ((some (57))) dX12_readLine_169 rfl rfl ?_
      refine w_get dX12_readLine_170 fl_RX12_212 ⟨rfl, Or.inr ⟨rfl, by decide⟩⟩ (aFv_i rfl) ?_
      refine w_if_ne 196 dX12_readLine_173 (by decide) (fun c40 => ?_) (fun c40 => ?_)
      · replace h := e_f c40 h
        refine w_sub [0] rfl ?_
        exact l_X12_readLine_196 _ _ h
      · replace h := e_t c40 h
        refine w_aload_n 0 ((some (57))) dX12_readLine_176 rfl rfl ?_
        refine w_aload_n 0 ((some (57))) dX12_readLine_177 rfl rfl ?_
        replace h := e_bind h; obtain ⟨q41, e42, h⟩ := h
        refine w_callV1 (M2 := m_X12_word) (av := []) (ci := 12) (c_X12_word  _ _ e42) dX12_readLine_178 kd_X12_word wd_31_7 wd_31_8 wd_31_9 rfl rfl ⟨rfl, Or.inr ⟨rfl, by decide⟩⟩ rfl ⟨Nat.le_of_ble_eq_true rfl, Nat.le_of_ble_eq_true rfl, Nat.le_of_ble_eq_true rfl, Nat.le_of_ble_eq_true rfl⟩ (Nat.le_of_ble_eq_true rfl) ?_
        refine w_ldc2 (v := 26982) dX12_readLine_181 wd_31_5 ?_
        refine w_lcmp dX12_readLine_184 ?_
        refine w_if_ne 192 dX12_readLine_185 (by decide) (fun c43 => ?_) (fun c43 => ?_)
        · replace h := e_f c43 h
          refine w_iconst (v := 0) dX12_readLine_192 (by decide) ?_
          refine w_sub [0] rfl ?_
          exact l_X12_readLine_193 _ _ _ h
        · replace h := e_t c43 h
          refine w_iconst (v := 1) dX12_readLine_188 (by decide) ?_
          refine w_goto 193 dX12_readLine_189 (by decide) ?_
          refine w_sub [0] rfl ?_
          exact l_X12_readLine_193 _ _ _ h
    · replace h := e_f c36 h
      refine w_aload_n 0 ((some (57))) dX12_readLine_115 rfl rfl ?_
      refine w_get (v := va_rf (some 76)) dX12_readLine_116 fl_RX12_77 ⟨rfl, Or.inr ⟨rfl, by decide⟩⟩ (aFv_k rfl) ?_
      refine w_iload_n 1 dX12_readLine_119 rfl rfl ?_
      refine w_aload_n 0 ((some (57))) dX12_readLine_120 rfl rfl ?_
      refine w_iload_n 1 dX12_readLine_121 rfl rfl ?_
      refine w_iconst (v := 2) dX12_readLine_122 (by decide) ?_
      refine w_icmp_ge 130 dX12_readLine_123 (by decide) (fun c44 => ?_) (fun c44 => ?_)
      · replace h := e_t c44 h
        refine w_iconst (v := 0) dX12_readLine_130 (by decide) ?_
        exact l_X12_readLine_131 _ _ _ _ _ h
      · replace h := e_f c44 h
        refine w_iconst (v := 1) dX12_readLine_126 (by decide) ?_
        refine w_goto 131 dX12_readLine_127 (by decide) ?_
        exact l_X12_readLine_131 _ _ _ _ _ h
  · replace h := e_f c35 h
    obtain rfl := Option.some.inj h
    exact w_vreturn dX12_readLine_108 rfl (Nat.le_of_ble_eq_true rfl) (Nat.le_of_ble_eq_true rfl)
set_option maxRecDepth 100000 in
set_option maxHeartbeats 4000000 in
theorem l_X12_readLine_93  (x3 : Int32) (σ : aSt) (o : Unit × aSt) (h : f_X12_readLine_93  x3 σ = some o) : AW true m_X12_readLine 93 [(0, va_rf (some (57))), (3, Value.int (x3))] [va_rf (some (57))] σ 0 0 none o.2 := by
  unfold f_X12_readLine_93 at h
  refine w_iconst (v := 1) dX12_readLine_93 (by decide) ?_
  refine w_goto 98 dX12_readLine_94 (by decide) ?_
  exact l_X12_readLine_98 _ _ _ _ h
set_option maxRecDepth 100000 in
set_option maxHeartbeats 4000000 in
theorem l_X12_readLine_77  (x1 : Int64) (t0 : Int32) (σ : aSt) (o : Unit × aSt) (h : f_X12_readLine_77  x1 t0 σ = some o) : AW true m_X12_readLine 77 [(0, va_rf (some (57))), (1, Value.long (x1))] [.int (t0)] σ 0 0 none o.2 := by
  unfold f_X12_readLine_77 at h
  refine w_istore_n dX12_readLine_77 rfl (by decide) rfl ?_
  refine w_aload_n 1 ((some (57))) dX12_readLine_78 rfl rfl ?_
  refine w_iload_n 0 dX12_readLine_79 rfl rfl ?_
  refine w_ldc (v := (-1000000)) dX12_readLine_80 wd_15_11 ?_
  refine w_icmp_ne 93 dX12_readLine_82 (by decide) (fun c45 => ?_) (fun c45 => ?_)
  · replace h := e_f c45 h
    refine w_sub [1, 0] rfl ?_
    exact l_X12_readLine_93 _ _ _ h
  · replace h := e_t c45 h
    refine w_lload_n 2 dX12_readLine_85 rfl rfl ?_
    refine w_ldc2 (v := 1920298085) dX12_readLine_86 wd_30_23 ?_
    refine w_lcmp dX12_readLine_89 ?_
    refine w_if_ne 97 dX12_readLine_90 (by decide) (fun c46 => ?_) (fun c46 => ?_)
    · replace h := e_f c46 h
      refine w_iconst (v := 0) dX12_readLine_97 (by decide) ?_
      refine w_sub [1, 0] rfl ?_
      exact l_X12_readLine_98 _ _ _ _ h
    · replace h := e_t c46 h
      refine w_sub [1, 0] rfl ?_
      exact l_X12_readLine_93 _ _ _ h
set_option maxRecDepth 100000 in
set_option maxHeartbeats 4000000 in
theorem l_X12_readLine_27  (x1 : Int64) (σ : aSt) (o : Unit × aSt) (h : f_X12_readLine_27  x1 σ = some o) : AW true m_X12_readLine 27 [(0, va_rf (some (57))), (1, Value.long (x1))] [] σ 0 0 none o.2 := by
  unfold f_X12_readLine_27 at h
  refine w_lload_n 1 dX12_readLine_27 rfl rfl ?_
  refine w_ldc2 (v := 131294707347319) dX12_readLine_28 wd_31_0 ?_
  refine w_lcmp dX12_readLine_31 ?_
  refine w_if_ne 39 dX12_readLine_32 (by decide) (fun c47 => ?_) (fun c47 => ?_)
  · replace h := e_f c47 h
    refine w_lload_n 1 dX12_readLine_39 rfl rfl ?_
    refine w_ldc2 (v := 431197741433) dX12_readLine_40 wd_31_1 ?_
    refine w_lcmp dX12_readLine_43 ?_
    refine w_if_ne 51 dX12_readLine_44 (by decide) (fun c48 => ?_) (fun c48 => ?_)
    · replace h := e_f c48 h
      refine w_lload_n 1 dX12_readLine_51 rfl rfl ?_
      refine w_ldc2 (v := 1819242347) dX12_readLine_52 wd_31_2 ?_
      refine w_lcmp dX12_readLine_55 ?_
      refine w_if_ne 63 dX12_readLine_56 (by decide) (fun c49 => ?_) (fun c49 => ?_)
      · replace h := e_f c49 h
        refine w_lload_n 1 dX12_readLine_63 rfl rfl ?_
        refine w_ldc2 (v := 422726034283) dX12_readLine_64 wd_31_3 ?_
        refine w_lcmp dX12_readLine_67 ?_
        refine w_if_ne 75 dX12_readLine_68 (by decide) (fun c50 => ?_) (fun c50 => ?_)
        · replace h := e_f c50 h
          refine w_ldc (v := (-1000000)) dX12_readLine_75 wd_15_11 ?_
          exact l_X12_readLine_77 _ _ _ _ h
        · replace h := e_t c50 h
          refine w_iconst (v := 3) dX12_readLine_71 (by decide) ?_
          refine w_goto 77 dX12_readLine_72 (by decide) ?_
          exact l_X12_readLine_77 _ _ _ _ h
      · replace h := e_t c49 h
        refine w_iconst (v := 2) dX12_readLine_59 (by decide) ?_
        refine w_goto 77 dX12_readLine_60 (by decide) ?_
        exact l_X12_readLine_77 _ _ _ _ h
    · replace h := e_t c48 h
      refine w_iconst (v := 1) dX12_readLine_47 (by decide) ?_
      refine w_goto 77 dX12_readLine_48 (by decide) ?_
      exact l_X12_readLine_77 _ _ _ _ h
  · replace h := e_t c47 h
    refine w_iconst (v := 0) dX12_readLine_35 (by decide) ?_
    refine w_goto 77 dX12_readLine_36 (by decide) ?_
    exact l_X12_readLine_77 _ _ _ _ h
set_option maxRecDepth 100000 in
set_option maxHeartbeats 4000000 in
theorem c_X12_readLine  (σ : aSt) (o : Unit × aSt) (h : f_X12_readLine  σ = some o) : AM true m_X12_readLine [va_rf (some (57))] σ none o.2 := by
  refine AM_of2 (lv := [(0, va_rf (some (57)))]) (by decide +kernel) rfl (Nat.le_of_ble_eq_true rfl) ?_
  unfold f_X12_readLine at h
  refine w_aload_n 0 ((some (57))) dX12_readLine_0 rfl rfl ?_
  replace h := e_bind h; obtain ⟨q1, e2, h⟩ := h
  refine w_callV1 (M2 := m_X12_word) (av := []) (ci := 12) (c_X12_word  _ _ e2) dX12_readLine_1 kd_X12_word wd_31_7 wd_31_8 wd_31_9 rfl rfl ⟨rfl, Or.inr ⟨rfl, by decide⟩⟩ rfl ⟨Nat.le_of_ble_eq_true rfl, Nat.le_of_ble_eq_true rfl, Nat.le_of_ble_eq_true rfl, Nat.le_of_ble_eq_true rfl⟩ (Nat.le_of_ble_eq_true rfl) ?_
  refine w_lstore_n dX12_readLine_4 rfl (by decide) rfl ?_
  refine w_lload_n 0 dX12_readLine_5 rfl rfl ?_
  refine w_ldc2 (v := 1920298085) dX12_readLine_6 wd_30_23 ?_
  refine w_lcmp dX12_readLine_9 ?_
  refine w_if_ne 27 dX12_readLine_10 (by decide) (fun c3 => ?_) (fun c3 => ?_)
  · replace h := e_f c3 h
    refine w_sub [1, 0] rfl ?_
    exact l_X12_readLine_27 _ _ _ h
  · replace h := e_t c3 h
    refine w_aload_n 1 ((some (57))) dX12_readLine_13 rfl rfl ?_
    refine w_get dX12_readLine_14 fl_RX12_253 ⟨rfl, Or.inr ⟨rfl, by decide⟩⟩ (aFv_i rfl) ?_
    refine w_bipush (v := 12) dX12_readLine_17 (by decide) ?_
    refine w_icmp_ne 27 dX12_readLine_19 (by decide) (fun c4 => ?_) (fun c4 => ?_)
    · replace h := e_f c4 h
      refine w_sub [1, 0] rfl ?_
      exact l_X12_readLine_27 _ _ _ h
    · replace h := e_t c4 h
      refine w_aload_n 1 ((some (57))) dX12_readLine_22 rfl rfl ?_
      refine w_iconst (v := 3) dX12_readLine_23 (by decide) ?_
      replace h := e_bind h; obtain ⟨q5, e6, h⟩ := h
      refine w_callV0 (M2 := m_X12_bad) (av := [.int (3)]) (ci := 12) (c_X12_bad _ _ _ e6) dX12_readLine_24 kd_X12_bad wd_31_11 wd_31_12 wd_31_13 rfl rfl ⟨rfl, Or.inr ⟨rfl, by decide⟩⟩ rfl ⟨Nat.le_of_ble_eq_true rfl, Nat.le_of_ble_eq_true rfl, Nat.le_of_ble_eq_true rfl, Nat.le_of_ble_eq_true rfl⟩ (Nat.le_of_ble_eq_true rfl) ?_
      refine w_sub [1, 0] rfl ?_
      exact l_X12_readLine_27 _ _ _ h
