theorem dX12_queue_0 : decode cX12_queue 0 = .ok (.aload_n 0, 1) := by decide +kernel
theorem dX12_queue_1 : decode cX12_queue 1 = .ok (.iconst 0, 1) := by decide +kernel
theorem dX12_queue_2 : decode cX12_queue 2 = .ok (.putfield 102, 3) := by decide +kernel
theorem dX12_queue_5 : decode cX12_queue 5 = .ok (.aload_n 0, 1) := by decide +kernel
theorem dX12_queue_6 : decode cX12_queue 6 = .ok (.invokevirtual 317, 3) := by decide +kernel
theorem dX12_queue_9 : decode cX12_queue 9 = .ok (.iload_n 1, 1) := by decide +kernel
theorem dX12_queue_10 : decode cX12_queue 10 = .ok (.i2l, 1) := by decide +kernel
theorem dX12_queue_11 : decode cX12_queue 11 = .ok (.lconst 0, 1) := by decide +kernel
theorem dX12_queue_12 : decode cX12_queue 12 = .ok (.aload_n 0, 1) := by decide +kernel
theorem dX12_queue_13 : decode cX12_queue 13 = .ok (.getfield 314, 3) := by decide +kernel
theorem dX12_queue_16 : decode cX12_queue 16 = .ok (.iconst 1, 1) := by decide +kernel
theorem dX12_queue_17 : decode cX12_queue 17 = .ok (.isub, 1) := by decide +kernel
theorem dX12_queue_18 : decode cX12_queue 18 = .ok (.i2l, 1) := by decide +kernel
theorem dX12_queue_19 : decode cX12_queue 19 = .ok (.invokestatic 111, 3) := by decide +kernel
theorem dX12_queue_22 : decode cX12_queue 22 = .ok (.ifCond .eq 17, 3) := by decide +kernel
theorem dX12_queue_25 : decode cX12_queue 25 = .ok (.aload_n 0, 1) := by decide +kernel
theorem dX12_queue_26 : decode cX12_queue 26 = .ok (.getfield 19, 3) := by decide +kernel
theorem dX12_queue_29 : decode cX12_queue 29 = .ok (.aload_n 0, 1) := by decide +kernel
theorem dX12_queue_30 : decode cX12_queue 30 = .ok (.getfield 86, 3) := by decide +kernel
theorem dX12_queue_33 : decode cX12_queue 33 = .ok (.iload_n 1, 1) := by decide +kernel
theorem dX12_queue_34 : decode cX12_queue 34 = .ok (.iaload, 1) := by decide +kernel
theorem dX12_queue_35 : decode cX12_queue 35 = .ok (.iaload, 1) := by decide +kernel
theorem dX12_queue_36 : decode cX12_queue 36 = .ok (.goto 5, 3) := by decide +kernel
theorem dX12_queue_39 : decode cX12_queue 39 = .ok (.ldc 126, 2) := by decide +kernel
theorem dX12_queue_41 : decode cX12_queue 41 = .ok (.ireturn, 1) := by decide +kernel
theorem kd_X12_queue : aKd m_X12_queue 1 := ⟨wd_39_17, wd_1_5, ⟨by decide +kernel, by decide +kernel, by decide +kernel⟩⟩
set_option maxRecDepth 100000 in
set_option maxHeartbeats 4000000 in
theorem l_X12_queue_41  (t0 : Int32) (σ : aSt) (o : Int32 × aSt) (h : f_X12_queue_41  t0 σ = some o) : AW true m_X12_queue 41 [] [.int (t0)] σ 0 0 (some (.int o.1)) o.2 := by
  unfold f_X12_queue_41 at h
  obtain rfl := Option.some.inj h
  exact w_ireturn dX12_queue_41 rfl (Nat.le_of_ble_eq_true rfl) (Nat.le_of_ble_eq_true rfl)
set_option maxRecDepth 100000 in
set_option maxHeartbeats 4000000 in
theorem c_X12_queue (p1 : Int32) (σ : aSt) (o : Int32 × aSt) (h : f_X12_queue p1 σ = some o) : AM true m_X12_queue [va_rf (some (57)), .int (p1)] σ (some (.int o.1)) o.2 := by
  refine AM_of2 (lv := [(0, va_rf (some (57))), (1, Value.int (p1))]) (by decide +kernel) rfl (Nat.le_of_ble_eq_true rfl) ?_
  unfold f_X12_queue at h
  refine w_aload_n 0 ((some (57))) dX12_queue_0 rfl rfl ?_
  refine w_iconst (v := 0) dX12_queue_1 (by decide) ?_
  refine w_putI dX12_queue_2 fl_RX12_102 (Or.inl rfl) rfl ⟨rfl, Or.inr ⟨rfl, by decide⟩⟩ ?_
  refine w_aload_n 0 ((some (57))) dX12_queue_5 rfl rfl ?_
  replace h := e_bind h; obtain ⟨q1, e2, h⟩ := h
  refine w_callV0 (M2 := m_X12_findQueue) (av := []) (ci := 12) (c_X12_findQueue  _ _ e2) dX12_queue_6 kd_X12_findQueue wd_39_19 wd_39_20 wd_39_21 rfl rfl ⟨rfl, Or.inr ⟨rfl, by decide⟩⟩ rfl ⟨Nat.le_of_ble_eq_true rfl, Nat.le_of_ble_eq_true rfl, Nat.le_of_ble_eq_true rfl, Nat.le_of_ble_eq_true rfl⟩ (Nat.le_of_ble_eq_true rfl) ?_
  refine w_iload_n 1 dX12_queue_9 rfl rfl ?_
  refine w_i2l dX12_queue_10 ?_
  refine w_lconst (v := 0) dX12_queue_11 (by decide) ?_
  refine w_aload_n 0 ((some (57))) dX12_queue_12 rfl rfl ?_
  refine w_get dX12_queue_13 fl_RX12_314 ⟨rfl, Or.inr ⟨rfl, by decide⟩⟩ (aFv_i rfl) ?_
  refine w_iconst (v := 1) dX12_queue_16 (by decide) ?_
  refine w_isub dX12_queue_17 ?_
  refine w_i2l dX12_queue_18 ?_
  replace h := e_bind h; obtain ⟨q3, e4, h⟩ := h
  refine w_callS1 (M2 := m_X12_in) (av := [.long (p1.toInt64), .long (0), .long (((gI q1.2 57 40) - 1).toInt64)]) (c_X12_in _ _ _ _ _ e4) dX12_queue_19 kd_X12_in wd_11_3 wd_11_4 rfl rfl ⟨Nat.le_of_ble_eq_true rfl, Nat.le_of_ble_eq_true rfl, Nat.le_of_ble_eq_true rfl, Nat.le_of_ble_eq_true rfl⟩ (Nat.le_of_ble_eq_true rfl) ?_
  refine w_if_eq 39 dX12_queue_22 (by decide) (fun c5 => ?_) (fun c5 => ?_)
  · replace h := e_t c5 h
    refine w_ldc (v := (-1000000)) dX12_queue_39 wd_15_11 ?_
    refine w_sub [] rfl ?_
    exact l_X12_queue_41 _ _ _ h
  · replace h := e_f c5 h
    refine w_aload_n 0 ((some (57))) dX12_queue_25 rfl rfl ?_
    refine w_get (v := va_rf (some 61)) dX12_queue_26 fl_RX12_19 ⟨rfl, Or.inr ⟨rfl, by decide⟩⟩ (aFv_k rfl) ?_
    refine w_aload_n 0 ((some (57))) dX12_queue_29 rfl rfl ?_
    refine w_get (v := va_rf (some 79)) dX12_queue_30 fl_RX12_86 ⟨rfl, Or.inr ⟨rfl, by decide⟩⟩ (aFv_k rfl) ?_
    refine w_iload_n 1 dX12_queue_33 rfl rfl ?_
    replace h := e_grd h; obtain ⟨b6, h⟩ := h
    refine w_iaload dX12_queue_34 ⟨rfl, Or.inr ⟨rfl, by decide⟩⟩ b6 ?_
    replace h := e_grd h; obtain ⟨b7, h⟩ := h
    refine w_iaload dX12_queue_35 ⟨rfl, Or.inr ⟨rfl, by decide⟩⟩ b7 ?_
    refine w_goto 41 dX12_queue_36 (by decide) ?_
    refine w_sub [] rfl ?_
    exact l_X12_queue_41 _ _ _ h
theorem dX12_cost_0 : decode cX12_cost 0 = .ok (.aload_n 0, 1) := by decide +kernel
theorem dX12_cost_1 : decode cX12_cost 1 = .ok (.iconst 0, 1) := by decide +kernel
theorem dX12_cost_2 : decode cX12_cost 2 = .ok (.putfield 102, 3) := by decide +kernel
theorem dX12_cost_5 : decode cX12_cost 5 = .ok (.iload_n 1, 1) := by decide +kernel
theorem dX12_cost_6 : decode cX12_cost 6 = .ok (.i2l, 1) := by decide +kernel
theorem dX12_cost_7 : decode cX12_cost 7 = .ok (.lconst 0, 1) := by decide +kernel
theorem dX12_cost_8 : decode cX12_cost 8 = .ok (.lconst 1, 1) := by decide +kernel
theorem dX12_cost_9 : decode cX12_cost 9 = .ok (.invokestatic 111, 3) := by decide +kernel
theorem dX12_cost_12 : decode cX12_cost 12 = .ok (.ifCond .eq 15, 3) := by decide +kernel
theorem dX12_cost_15 : decode cX12_cost 15 = .ok (.iload_n 2, 1) := by decide +kernel
theorem dX12_cost_16 : decode cX12_cost 16 = .ok (.i2l, 1) := by decide +kernel
theorem dX12_cost_17 : decode cX12_cost 17 = .ok (.lconst 0, 1) := by decide +kernel
theorem dX12_cost_18 : decode cX12_cost 18 = .ok (.ldc2_w 132, 3) := by decide +kernel
theorem dX12_cost_21 : decode cX12_cost 21 = .ok (.invokestatic 111, 3) := by decide +kernel
theorem dX12_cost_24 : decode cX12_cost 24 = .ok (.ifCond .ne 6, 3) := by decide +kernel
theorem dX12_cost_27 : decode cX12_cost 27 = .ok (.ldc 121, 2) := by decide +kernel
theorem dX12_cost_29 : decode cX12_cost 29 = .ok (.ireturn, 1) := by decide +kernel
theorem dX12_cost_30 : decode cX12_cost 30 = .ok (.aload_n 0, 1) := by decide +kernel
theorem dX12_cost_31 : decode cX12_cost 31 = .ok (.getfield 89, 3) := by decide +kernel
theorem dX12_cost_34 : decode cX12_cost 34 = .ok (.iload_n 1, 1) := by decide +kernel
theorem dX12_cost_35 : decode cX12_cost 35 = .ok (.iaload, 1) := by decide +kernel
theorem dX12_cost_36 : decode cX12_cost 36 = .ok (.istore_n 3, 1) := by decide +kernel
theorem dX12_cost_37 : decode cX12_cost 37 = .ok (.aload_n 0, 1) := by decide +kernel
theorem dX12_cost_38 : decode cX12_cost 38 = .ok (.getfield 89, 3) := by decide +kernel
theorem dX12_cost_41 : decode cX12_cost 41 = .ok (.iload_n 1, 1) := by decide +kernel
theorem dX12_cost_42 : decode cX12_cost 42 = .ok (.iload_n 2, 1) := by decide +kernel
theorem dX12_cost_43 : decode cX12_cost 43 = .ok (.iastore, 1) := by decide +kernel
theorem dX12_cost_44 : decode cX12_cost 44 = .ok (.iload_n 3, 1) := by decide +kernel
theorem dX12_cost_45 : decode cX12_cost 45 = .ok (.ireturn, 1) := by decide +kernel
theorem kd_X12_cost : aKd m_X12_cost 2 := ⟨wd_40_8, wd_1_5, ⟨by decide +kernel, by decide +kernel, by decide +kernel⟩⟩
set_option maxRecDepth 100000 in
set_option maxHeartbeats 4000000 in
theorem l_X12_cost_27   (σ : aSt) (o : Int32 × aSt) (h : f_X12_cost_27   σ = some o) : AW true m_X12_cost 27 [] [] σ 0 0 (some (.int o.1)) o.2 := by
  unfold f_X12_cost_27 at h
  refine w_ldc (v := (-1000001)) dX12_cost_27 wd_10_21 ?_
  obtain rfl := Option.some.inj h
  exact w_ireturn dX12_cost_29 rfl (Nat.le_of_ble_eq_true rfl) (Nat.le_of_ble_eq_true rfl)
set_option maxRecDepth 100000 in
set_option maxHeartbeats 4000000 in
theorem c_X12_cost (p1 : Int32) (p2 : Int32) (σ : aSt) (o : Int32 × aSt) (h : f_X12_cost p1 p2 σ = some o) : AM true m_X12_cost [va_rf (some (57)), .int (p1), .int (p2)] σ (some (.int o.1)) o.2 := by
  refine AM_of2 (lv := [(0, va_rf (some (57))), (1, Value.int (p1)), (2, Value.int (p2))]) (by decide +kernel) rfl (Nat.le_of_ble_eq_true rfl) ?_
  unfold f_X12_cost at h
  refine w_aload_n 0 ((some (57))) dX12_cost_0 rfl rfl ?_
  refine w_iconst (v := 0) dX12_cost_1 (by decide) ?_
  refine w_putI dX12_cost_2 fl_RX12_102 (Or.inl rfl) rfl ⟨rfl, Or.inr ⟨rfl, by decide⟩⟩ ?_
  refine w_iload_n 1 dX12_cost_5 rfl rfl ?_
  refine w_i2l dX12_cost_6 ?_
  refine w_lconst (v := 0) dX12_cost_7 (by decide) ?_
  refine w_lconst (v := 1) dX12_cost_8 (by decide) ?_
  replace h := e_bind h; obtain ⟨q1, e2, h⟩ := h
  refine w_callS1 (M2 := m_X12_in) (av := [.long (p1.toInt64), .long (0), .long (1)]) (c_X12_in _ _ _ _ _ e2) dX12_cost_9 kd_X12_in wd_11_3 wd_11_4 rfl rfl ⟨Nat.le_of_ble_eq_true rfl, Nat.le_of_ble_eq_true rfl, Nat.le_of_ble_eq_true rfl, Nat.le_of_ble_eq_true rfl⟩ (Nat.le_of_ble_eq_true rfl) ?_
  refine w_if_eq 27 dX12_cost_12 (by decide) (fun c3 => ?_) (fun c3 => ?_)
  · replace h := e_t c3 h
    refine w_sub [] rfl ?_
    exact l_X12_cost_27 _ _ h
  · replace h := e_f c3 h
    refine w_iload_n 2 dX12_cost_15 rfl rfl ?_
    refine w_i2l dX12_cost_16 ?_
    refine w_lconst (v := 0) dX12_cost_17 (by decide) ?_
    refine w_ldc2 (v := 100000) dX12_cost_18 wd_15_8 ?_
    replace h := e_bind h; obtain ⟨q4, e5, h⟩ := h
    refine w_callS1 (M2 := m_X12_in) (av := [.long (p2.toInt64), .long (0), .long (100000)]) (c_X12_in _ _ _ _ _ e5) dX12_cost_21 kd_X12_in wd_11_3 wd_11_4 rfl rfl ⟨Nat.le_of_ble_eq_true rfl, Nat.le_of_ble_eq_true rfl, Nat.le_of_ble_eq_true rfl, Nat.le_of_ble_eq_true rfl⟩ (Nat.le_of_ble_eq_true rfl) ?_
    refine w_if_ne 30 dX12_cost_24 (by decide) (fun c6 => ?_) (fun c6 => ?_)
    · replace h := e_f c6 h
      refine w_aload_n 0 ((some (57))) dX12_cost_30 rfl rfl ?_
      refine w_get (v := va_rf (some 80)) dX12_cost_31 fl_RX12_89 ⟨rfl, Or.inr ⟨rfl, by decide⟩⟩ (aFv_k rfl) ?_
      refine w_iload_n 1 dX12_cost_34 rfl rfl ?_
      replace h := e_grd h; obtain ⟨b7, h⟩ := h
      refine w_iaload dX12_cost_35 ⟨rfl, Or.inr ⟨rfl, by decide⟩⟩ b7 ?_
      refine w_istore_n dX12_cost_36 rfl (by decide) rfl ?_
      refine w_aload_n 1 ((some (57))) dX12_cost_37 rfl rfl ?_
      refine w_get (v := va_rf (some 80)) dX12_cost_38 fl_RX12_89 ⟨rfl, Or.inr ⟨rfl, by decide⟩⟩ (aFv_k rfl) ?_
      refine w_iload_n 2 dX12_cost_41 rfl rfl ?_
      refine w_iload_n 3 dX12_cost_42 rfl rfl ?_
      replace h := e_grd h; obtain ⟨b8, h⟩ := h
      refine w_iastore dX12_cost_43 ⟨rfl, Or.inr ⟨rfl, by decide⟩⟩ b8 ?_
      refine w_iload_n 0 dX12_cost_44 rfl rfl ?_
      obtain rfl := Option.some.inj h
      exact w_ireturn dX12_cost_45 rfl (Nat.le_of_ble_eq_true rfl) (Nat.le_of_ble_eq_true rfl)
    · replace h := e_t c6 h
      refine w_sub [] rfl ?_
      exact l_X12_cost_27 _ _ h
theorem dX12_findScores_0 : decode cX12_findScores 0 = .ok (.iconst 0, 1) := by decide +kernel
theorem dX12_findScores_1 : decode cX12_findScores 1 = .ok (.istore_n 1, 1) := by decide +kernel
theorem dX12_findScores_2 : decode cX12_findScores 2 = .ok (.iload_n 1, 1) := by decide +kernel
theorem dX12_findScores_3 : decode cX12_findScores 3 = .ok (.aload_n 0, 1) := by decide +kernel
theorem dX12_findScores_4 : decode cX12_findScores 4 = .ok (.getfield 127, 3) := by decide +kernel
theorem dX12_findScores_7 : decode cX12_findScores 7 = .ok (.if_icmp .ge 36, 3) := by decide +kernel
theorem dX12_findScores_10 : decode cX12_findScores 10 = .ok (.aload_n 0, 1) := by decide +kernel
theorem dX12_findScores_11 : decode cX12_findScores 11 = .ok (.getfield 83, 3) := by decide +kernel
theorem dX12_findScores_14 : decode cX12_findScores 14 = .ok (.iload_n 1, 1) := by decide +kernel
theorem dX12_findScores_15 : decode cX12_findScores 15 = .ok (.aload_n 0, 1) := by decide +kernel
theorem dX12_findScores_16 : decode cX12_findScores 16 = .ok (.getfield 37, 3) := by decide +kernel
theorem dX12_findScores_19 : decode cX12_findScores 19 = .ok (.iload_n 1, 1) := by decide +kernel
theorem dX12_findScores_20 : decode cX12_findScores 20 = .ok (.iaload, 1) := by decide +kernel
theorem dX12_findScores_21 : decode cX12_findScores 21 = .ok (.ldc 126, 2) := by decide +kernel
theorem dX12_findScores_23 : decode cX12_findScores 23 = .ok (.if_icmp .ne 7, 3) := by decide +kernel
theorem dX12_findScores_26 : decode cX12_findScores 26 = .ok (.iconst 0, 1) := by decide +kernel
theorem dX12_findScores_27 : decode cX12_findScores 27 = .ok (.goto 9, 3) := by decide +kernel
theorem dX12_findScores_30 : decode cX12_findScores 30 = .ok (.aload_n 0, 1) := by decide +kernel
theorem dX12_findScores_31 : decode cX12_findScores 31 = .ok (.iload_n 1, 1) := by decide +kernel
theorem dX12_findScores_32 : decode cX12_findScores 32 = .ok (.iconst 0, 1) := by decide +kernel
theorem dX12_findScores_33 : decode cX12_findScores 33 = .ok (.invokevirtual 311, 3) := by decide +kernel
theorem dX12_findScores_36 : decode cX12_findScores 36 = .ok (.iastore, 1) := by decide +kernel
theorem dX12_findScores_37 : decode cX12_findScores 37 = .ok (.iinc 1 1, 3) := by decide +kernel
theorem dX12_findScores_40 : decode cX12_findScores 40 = .ok (.goto (-38), 3) := by decide +kernel
theorem dX12_findScores_43 : decode cX12_findScores 43 = .ok (.return_, 1) := by decide +kernel
theorem kd_X12_findScores : aKd m_X12_findScores 0 := ⟨wd_41_21, wd_1_5, ⟨by decide +kernel, by decide +kernel, by decide +kernel⟩⟩
set_option maxRecDepth 100000 in
set_option maxHeartbeats 4000000 in
theorem l_X12_findScores_36 (rec2 : Int32 → aSt → Option (Unit × aSt)) (hrec2 : ∀ (x1 : Int32) (σ : aSt) (o : Unit × aSt), rec2 x1 σ = some o → AW true m_X12_findScores 2 [(0, va_rf (some (57))), (1, Value.int (x1))] [] σ 0 0 none o.2) (x1 : Int32) (t1 : Int32) (t2 : Int32) (σ : aSt) (o : Unit × aSt) (h : f_X12_findScores_36 rec2 x1 t1 t2 σ = some o) : AW true m_X12_findScores 36 [(0, va_rf (some (57))), (1, Value.int (x1))] [.int (t2), .int (t1), va_rf (some (78))] σ 0 0 none o.2 := by
  unfold f_X12_findScores_36 at h
  replace h := e_grd h; obtain ⟨b1, h⟩ := h
  refine w_iastore dX12_findScores_36 ⟨rfl, Or.inr ⟨rfl, by decide⟩⟩ b1 ?_
  refine w_iinc (q := 1) (v := x1 + 1) dX12_findScores_37 rfl rfl (by decide) rfl ?_
  refine w_goto 2 dX12_findScores_40 (by decide) ?_
  refine w_sub [1, 0] rfl ?_
  exact hrec2 _ _ _ h
set_option maxRecDepth 100000 in
set_option maxHeartbeats 4000000 in
theorem l_X12_findScores_2_b (rec2 : Int32 → aSt → Option (Unit × aSt)) (hrec2 : ∀ (x1 : Int32) (σ : aSt) (o : Unit × aSt), rec2 x1 σ = some o → AW true m_X12_findScores 2 [(0, va_rf (some (57))), (1, Value.int (x1))] [] σ 0 0 none o.2) (x1 : Int32) (σ : aSt) (o : Unit × aSt) (h : f_X12_findScores_2_b rec2 x1 σ = some o) : AW true m_X12_findScores 2 [(0, va_rf (some (57))), (1, Value.int (x1))] [] σ 0 0 none o.2 := by
  unfold f_X12_findScores_2_b at h
  refine w_iload_n 1 dX12_findScores_2 rfl rfl ?_
  refine w_aload_n 0 ((some (57))) dX12_findScores_3 rfl rfl ?_
  refine w_get dX12_findScores_4 fl_RX12_127 ⟨rfl, Or.inr ⟨rfl, by decide⟩⟩ (aFv_i rfl) ?_
  refine w_icmp_ge 43 dX12_findScores_7 (by decide) (fun c2 => ?_) (fun c2 => ?_)
  · replace h := e_t c2 h
    obtain rfl := Option.some.inj h
    exact w_vreturn dX12_findScores_43 rfl (Nat.le_of_ble_eq_true rfl) (Nat.le_of_ble_eq_true rfl)
  · replace h := e_f c2 h
    refine w_aload_n 0 ((some (57))) dX12_findScores_10 rfl rfl ?_
    refine w_get (v := va_rf (some 78)) dX12_findScores_11 fl_RX12_83 ⟨rfl, Or.inr ⟨rfl, by decide⟩⟩ (aFv_k rfl) ?_
    refine w_iload_n 1 dX12_findScores_14 rfl rfl ?_
    refine w_aload_n 0 ((some (57))) dX12_findScores_15 rfl rfl ?_
    refine w_get (v := va_rf (some 67)) dX12_findScores_16 fl_RX12_37 ⟨rfl, Or.inr ⟨rfl, by decide⟩⟩ (aFv_k rfl) ?_
    refine w_iload_n 1 dX12_findScores_19 rfl rfl ?_
    replace h := e_grd h; obtain ⟨b3, h⟩ := h
    refine w_iaload dX12_findScores_20 ⟨rfl, Or.inr ⟨rfl, by decide⟩⟩ b3 ?_
    refine w_ldc (v := (-1000000)) dX12_findScores_21 wd_15_11 ?_
    refine w_icmp_ne 30 dX12_findScores_23 (by decide) (fun c4 => ?_) (fun c4 => ?_)
    · replace h := e_f c4 h
      refine w_aload_n 0 ((some (57))) dX12_findScores_30 rfl rfl ?_
      refine w_iload_n 1 dX12_findScores_31 rfl rfl ?_
      refine w_iconst (v := 0) dX12_findScores_32 (by decide) ?_
      replace h := e_bind h; obtain ⟨q5, e6, h⟩ := h
      refine w_callV1 (M2 := m_X12_scoreOf) (av := [.int (x1), .int (0)]) (ci := 12) (c_X12_scoreOf _ _ _ _ e6) dX12_findScores_33 kd_X12_scoreOf wd_38_8 wd_38_9 wd_38_10 rfl rfl ⟨rfl, Or.inr ⟨rfl, by decide⟩⟩ rfl ⟨Nat.le_of_ble_eq_true rfl, Nat.le_of_ble_eq_true rfl, Nat.le_of_ble_eq_true rfl, Nat.le_of_ble_eq_true rfl⟩ (Nat.le_of_ble_eq_true rfl) ?_
      exact l_X12_findScores_36 rec2 hrec2 _ _ _ _ _ h
    · replace h := e_t c4 h
      refine w_iconst (v := 0) dX12_findScores_26 (by decide) ?_
      refine w_goto 36 dX12_findScores_27 (by decide) ?_
      exact l_X12_findScores_36 rec2 hrec2 _ _ _ _ _ h
theorem l_X12_findScores_2  : ∀ (n : Nat) (x1 : Int32) (σ : aSt) (o : Unit × aSt), f_X12_findScores_2  n x1 σ = some o → AW true m_X12_findScores 2 [(0, va_rf (some (57))), (1, Value.int (x1))] [] σ 0 0 none o.2
  | 0 => fun x1 σ o h => by cases h
  | n + 1 => fun x1 σ o h => l_X12_findScores_2_b (f_X12_findScores_2  n) (l_X12_findScores_2  n) x1 σ o h
set_option maxRecDepth 100000 in
set_option maxHeartbeats 4000000 in
theorem c_X12_findScores  (σ : aSt) (o : Unit × aSt) (h : f_X12_findScores  σ = some o) : AM true m_X12_findScores [va_rf (some (57))] σ none o.2 := by
  refine AM_of2 (lv := [(0, va_rf (some (57)))]) (by decide +kernel) rfl (Nat.le_of_ble_eq_true rfl) ?_
  unfold f_X12_findScores at h
  refine w_iconst (v := 0) dX12_findScores_0 (by decide) ?_
  refine w_istore_n dX12_findScores_1 rfl (by decide) rfl ?_
  refine w_sub [1, 0] rfl ?_
  exact l_X12_findScores_2 aN _ _ _ h
theorem dX12_costOf_0 : decode cX12_costOf 0 = .ok (.lconst 0, 1) := by decide +kernel
theorem dX12_costOf_1 : decode cX12_costOf 1 = .ok (.lstore_n 3, 1) := by decide +kernel
theorem dX12_costOf_2 : decode cX12_costOf 2 = .ok (.iconst 0, 1) := by decide +kernel
theorem dX12_costOf_3 : decode cX12_costOf 3 = .ok (.istore 5, 2) := by decide +kernel
theorem dX12_costOf_5 : decode cX12_costOf 5 = .ok (.iload 5, 2) := by decide +kernel
theorem dX12_costOf_7 : decode cX12_costOf 7 = .ok (.aload_n 0, 1) := by decide +kernel
theorem dX12_costOf_8 : decode cX12_costOf 8 = .ok (.getfield 127, 3) := by decide +kernel
theorem dX12_costOf_11 : decode cX12_costOf 11 = .ok (.if_icmp .ge 109, 3) := by decide +kernel
theorem dX12_costOf_14 : decode cX12_costOf 14 = .ok (.aload_n 0, 1) := by decide +kernel
theorem dX12_costOf_15 : decode cX12_costOf 15 = .ok (.getfield 37, 3) := by decide +kernel
theorem dX12_costOf_18 : decode cX12_costOf 18 = .ok (.iload 5, 2) := by decide +kernel
theorem dX12_costOf_20 : decode cX12_costOf 20 = .ok (.iaload, 1) := by decide +kernel
theorem dX12_costOf_21 : decode cX12_costOf 21 = .ok (.ldc 126, 2) := by decide +kernel
theorem dX12_costOf_23 : decode cX12_costOf 23 = .ok (.if_icmp .eq 91, 3) := by decide +kernel
theorem dX12_costOf_26 : decode cX12_costOf 26 = .ok (.aload_n 0, 1) := by decide +kernel
theorem dX12_costOf_27 : decode cX12_costOf 27 = .ok (.getfield 83, 3) := by decide +kernel
theorem dX12_costOf_30 : decode cX12_costOf 30 = .ok (.iload 5, 2) := by decide +kernel
theorem dX12_costOf_32 : decode cX12_costOf 32 = .ok (.iaload, 1) := by decide +kernel
theorem dX12_costOf_33 : decode cX12_costOf 33 = .ok (.iload_n 2, 1) := by decide +kernel
theorem dX12_costOf_34 : decode cX12_costOf 34 = .ok (.if_icmp .lt 30, 3) := by decide +kernel
theorem dX12_costOf_37 : decode cX12_costOf 37 = .ok (.lload_n 3, 1) := by decide +kernel
theorem dX12_costOf_38 : decode cX12_costOf 38 = .ok (.aload_n 0, 1) := by decide +kernel
theorem dX12_costOf_39 : decode cX12_costOf 39 = .ok (.getfield 37, 3) := by decide +kernel
theorem dX12_costOf_42 : decode cX12_costOf 42 = .ok (.iload 5, 2) := by decide +kernel
theorem dX12_costOf_44 : decode cX12_costOf 44 = .ok (.iaload, 1) := by decide +kernel
theorem dX12_costOf_45 : decode cX12_costOf 45 = .ok (.ifCond .ne 13, 3) := by decide +kernel
theorem dX12_costOf_48 : decode cX12_costOf 48 = .ok (.aload_n 0, 1) := by decide +kernel
theorem dX12_costOf_49 : decode cX12_costOf 49 = .ok (.getfield 89, 3) := by decide +kernel
theorem dX12_costOf_52 : decode cX12_costOf 52 = .ok (.iconst 0, 1) := by decide +kernel
theorem dX12_costOf_53 : decode cX12_costOf 53 = .ok (.iaload, 1) := by decide +kernel
theorem dX12_costOf_54 : decode cX12_costOf 54 = .ok (.i2l, 1) := by decide +kernel
theorem dX12_costOf_55 : decode cX12_costOf 55 = .ok (.goto 4, 3) := by decide +kernel
theorem dX12_costOf_58 : decode cX12_costOf 58 = .ok (.lconst 0, 1) := by decide +kernel
theorem dX12_costOf_59 : decode cX12_costOf 59 = .ok (.ladd, 1) := by decide +kernel
theorem dX12_costOf_60 : decode cX12_costOf 60 = .ok (.lstore_n 3, 1) := by decide +kernel
theorem dX12_costOf_61 : decode cX12_costOf 61 = .ok (.goto 53, 3) := by decide +kernel
theorem dX12_costOf_64 : decode cX12_costOf 64 = .ok (.aload_n 0, 1) := by decide +kernel
theorem dX12_costOf_65 : decode cX12_costOf 65 = .ok (.getfield 83, 3) := by decide +kernel
theorem dX12_costOf_68 : decode cX12_costOf 68 = .ok (.iload 5, 2) := by decide +kernel
theorem dX12_costOf_70 : decode cX12_costOf 70 = .ok (.iaload, 1) := by decide +kernel
theorem dX12_costOf_71 : decode cX12_costOf 71 = .ok (.iload_n 1, 1) := by decide +kernel
theorem dX12_costOf_72 : decode cX12_costOf 72 = .ok (.if_icmp .lt 16, 3) := by decide +kernel
theorem dX12_costOf_75 : decode cX12_costOf 75 = .ok (.lload_n 3, 1) := by decide +kernel
theorem dX12_costOf_76 : decode cX12_costOf 76 = .ok (.aload_n 0, 1) := by decide +kernel
theorem dX12_costOf_77 : decode cX12_costOf 77 = .ok (.getfield 89, 3) := by decide +kernel
theorem dX12_costOf_80 : decode cX12_costOf 80 = .ok (.iconst 1, 1) := by decide +kernel
theorem dX12_costOf_81 : decode cX12_costOf 81 = .ok (.iaload, 1) := by decide +kernel
theorem dX12_costOf_82 : decode cX12_costOf 82 = .ok (.i2l, 1) := by decide +kernel
theorem dX12_costOf_83 : decode cX12_costOf 83 = .ok (.ladd, 1) := by decide +kernel
theorem dX12_costOf_84 : decode cX12_costOf 84 = .ok (.lstore_n 3, 1) := by decide +kernel
theorem dX12_costOf_85 : decode cX12_costOf 85 = .ok (.goto 29, 3) := by decide +kernel
theorem dX12_costOf_88 : decode cX12_costOf 88 = .ok (.lload_n 3, 1) := by decide +kernel
theorem dX12_costOf_89 : decode cX12_costOf 89 = .ok (.aload_n 0, 1) := by decide +kernel
theorem dX12_costOf_90 : decode cX12_costOf 90 = .ok (.getfield 37, 3) := by decide +kernel
theorem dX12_costOf_93 : decode cX12_costOf 93 = .ok (.iload 5, 2) := by decide +kernel
theorem dX12_costOf_95 : decode cX12_costOf 95 = .ok (.iaload, 1) := by decide +kernel
theorem dX12_costOf_96 : decode cX12_costOf 96 = .ok (.iconst 1, 1) := by decide +kernel
theorem dX12_costOf_97 : decode cX12_costOf 97 = .ok (.if_icmp .ne 14, 3) := by decide +kernel
theorem dX12_costOf_100 : decode cX12_costOf 100 = .ok (.aload_n 0, 1) := by decide +kernel
theorem dX12_costOf_101 : decode cX12_costOf 101 = .ok (.getfield 31, 3) := by decide +kernel
theorem dX12_costOf_104 : decode cX12_costOf 104 = .ok (.iload 5, 2) := by decide +kernel
theorem dX12_costOf_106 : decode cX12_costOf 106 = .ok (.iaload, 1) := by decide +kernel
theorem dX12_costOf_107 : decode cX12_costOf 107 = .ok (.i2l, 1) := by decide +kernel
theorem dX12_costOf_108 : decode cX12_costOf 108 = .ok (.goto 4, 3) := by decide +kernel
theorem dX12_costOf_111 : decode cX12_costOf 111 = .ok (.lconst 0, 1) := by decide +kernel
theorem dX12_costOf_112 : decode cX12_costOf 112 = .ok (.ladd, 1) := by decide +kernel
theorem dX12_costOf_113 : decode cX12_costOf 113 = .ok (.lstore_n 3, 1) := by decide +kernel
theorem dX12_costOf_114 : decode cX12_costOf 114 = .ok (.iinc 5 1, 3) := by decide +kernel
theorem dX12_costOf_117 : decode cX12_costOf 117 = .ok (.goto (-112), 3) := by decide +kernel
theorem dX12_costOf_120 : decode cX12_costOf 120 = .ok (.lload_n 3, 1) := by decide +kernel
theorem dX12_costOf_121 : decode cX12_costOf 121 = .ok (.lreturn, 1) := by decide +kernel
theorem kd_X12_costOf : aKd m_X12_costOf 2 := ⟨wd_42_1, wd_1_5, ⟨by decide +kernel, by decide +kernel, by decide +kernel⟩⟩
set_option maxRecDepth 100000 in
set_option maxHeartbeats 4000000 in
theorem l_X12_costOf_114 (rec5 : Int32 → Int32 → Int64 → Int32 → aSt → Option (Int64 × aSt)) (hrec5 : ∀ (x1 : Int32) (x2 : Int32) (x3 : Int64) (x5 : Int32) (σ : aSt) (o : Int64 × aSt), rec5 x1 x2 x3 x5 σ = some o → AW true m_X12_costOf 5 [(0, va_rf (some (57))), (1, Value.int (x1)), (2, Value.int (x2)), (3, Value.long (x3)), (5, Value.int (x5))] [] σ 0 0 (some (.long o.1)) o.2) (x1 : Int32) (x2 : Int32) (x3 : Int64) (x5 : Int32) (σ : aSt) (o : Int64 × aSt) (h : f_X12_costOf_114 rec5 x1 x2 x3 x5 σ = some o) : AW true m_X12_costOf 114 [(0, va_rf (some (57))), (1, Value.int (x1)), (2, Value.int (x2)), (3, Value.long (x3)), (5, Value.int (x5))] [] σ 0 0 (some (.long o.1)) o.2 := by
  unfold f_X12_costOf_114 at h
  refine w_iinc (q := 4) (v := x5 + 1) dX12_costOf_114 rfl rfl (by decide) rfl ?_
  refine w_goto 5 dX12_costOf_117 (by decide) ?_
  refine w_sub [1, 2, 3, 4, 0] rfl ?_
  exact hrec5 _ _ _ _ _ _ h
set_option maxRecDepth 100000 in
set_option maxHeartbeats 4000000 in
theorem l_X12_costOf_59 (rec5 : Int32 → Int32 → Int64 → Int32 → aSt → Option (Int64 × aSt)) (hrec5 : ∀ (x1 : Int32) (x2 : Int32) (x3 : Int64) (x5 : Int32) (σ : aSt) (o : Int64 × aSt), rec5 x1 x2 x3 x5 σ = some o → AW true m_X12_costOf 5 [(0, va_rf (some (57))), (1, Value.int (x1)), (2, Value.int (x2)), (3, Value.long (x3)), (5, Value.int (x5))] [] σ 0 0 (some (.long o.1)) o.2) (x1 : Int32) (x2 : Int32) (x5 : Int32) (t0 : Int64) (t1 : Int64) (σ : aSt) (o : Int64 × aSt) (h : f_X12_costOf_59 rec5 x1 x2 x5 t0 t1 σ = some o) : AW true m_X12_costOf 59 [(0, va_rf (some (57))), (1, Value.int (x1)), (2, Value.int (x2)), (5, Value.int (x5))] [.long (t1), .long (t0)] σ 0 0 (some (.long o.1)) o.2 := by
  unfold f_X12_costOf_59 at h
  refine w_ladd dX12_costOf_59 ?_
  refine w_lstore_n dX12_costOf_60 rfl (by decide) rfl ?_
  refine w_goto 114 dX12_costOf_61 (by decide) ?_
  refine w_sub [1, 2, 3, 0, 4] rfl ?_
  exact l_X12_costOf_114 rec5 hrec5 _ _ _ _ _ _ h
set_option maxRecDepth 100000 in
set_option maxHeartbeats 4000000 in
theorem l_X12_costOf_112 (rec5 : Int32 → Int32 → Int64 → Int32 → aSt → Option (Int64 × aSt)) (hrec5 : ∀ (x1 : Int32) (x2 : Int32) (x3 : Int64) (x5 : Int32) (σ : aSt) (o : Int64 × aSt), rec5 x1 x2 x3 x5 σ = some o → AW true m_X12_costOf 5 [(0, va_rf (some (57))), (1, Value.int (x1)), (2, Value.int (x2)), (3, Value.long (x3)), (5, Value.int (x5))] [] σ 0 0 (some (.long o.1)) o.2) (x1 : Int32) (x2 : Int32) (x5 : Int32) (t0 : Int64) (t1 : Int64) (σ : aSt) (o : Int64 × aSt) (h : f_X12_costOf_112 rec5 x1 x2 x5 t0 t1 σ = some o) : AW true m_X12_costOf 112 [(0, va_rf (some (57))), (1, Value.int (x1)), (2, Value.int (x2)), (5, Value.int (x5))] [.long (t1), .long (t0)] σ 0 0 (some (.long o.1)) o.2 := by
  unfold f_X12_costOf_112 at h
  refine w_ladd dX12_costOf_112 ?_
  refine w_lstore_n dX12_costOf_113 rfl (by decide) rfl ?_
  refine w_sub [1, 2, 3, 0, 4] rfl ?_
  exact l_X12_costOf_114 rec5 hrec5 _ _ _ _ _ _ h
set_option maxRecDepth 100000 in
set_option maxHeartbeats 4000000 in
theorem l_X12_costOf_5_b (rec5 : Int32 → Int32 → Int64 → Int32 → aSt → Option (Int64 × aSt)) (hrec5 : ∀ (x1 : Int32) (x2 : Int32) (x3 : Int64) (x5 : Int32) (σ : aSt) (o : Int64 × aSt), rec5 x1 x2 x3 x5 σ = some o → AW true m_X12_costOf 5 [(0, va_rf (some (57))), (1, Value.int (x1)), (2, Value.int (x2)), (3, Value.long (x3)), (5, Value.int (x5))] [] σ 0 0 (some (.long o.1)) o.2) (x1 : Int32) (x2 : Int32) (x3 : Int64) (x5 : Int32) (σ : aSt) (o : Int64 × aSt) (h : f_X12_costOf_5_b rec5 x1 x2 x3 x5 σ = some o) : AW true m_X12_costOf 5 [(0, va_rf (some (57))), (1, Value.int (x1)), (2, Value.int (x2)), (3, Value.long (x3)), (5, Value.int (x5))] [] σ 0 0 (some (.long o.1)) o.2 := by
  unfold f_X12_costOf_5_b at h
  refine w_iload 4 dX12_costOf_5 rfl ?_
  refine w_aload_n 0 ((some (57))) dX12_costOf_7 rfl rfl ?_
  refine w_get dX12_costOf_8 fl_RX12_127 ⟨rfl, Or.inr ⟨rfl, by decide⟩⟩ (aFv_i rfl) ?_
  refine w_icmp_ge 120 dX12_costOf_11 (by decide) (fun c1 => ?_) (fun c1 => ?_)
  · replace h := e_t c1 h
    refine w_lload_n 3 dX12_costOf_120 rfl rfl ?_
    obtain rfl := Option.some.inj h
    exact w_lreturn dX12_costOf_121 rfl (Nat.le_of_ble_eq_true rfl) (Nat.le_of_ble_eq_true rfl)
  · replace h := e_f c1 h
    refine w_aload_n 0 ((some (57))) dX12_costOf_14 rfl rfl ?_
    refine w_get (v := va_rf (some 67)) dX12_costOf_15 fl_RX12_37 ⟨rfl, Or.inr ⟨rfl, by decide⟩⟩ (aFv_k rfl) ?_
    refine w_iload 4 dX12_costOf_18 rfl ?_
    replace h := e_grd h; obtain ⟨b2, h⟩ := h
    refine w_iaload dX12_costOf_20 ⟨rfl, Or.inr ⟨rfl, by decide⟩⟩ b2 ?_
    refine w_ldc (v := (-1000000)) dX12_costOf_21 wd_15_11 ?_
    refine w_icmp_eq 114 dX12_costOf_23 (by decide) (fun c3 => ?_) (fun c3 => ?_)
    · replace h := e_t c3 h
      exact l_X12_costOf_114 rec5 hrec5 _ _ _ _ _ _ h
    · replace h := e_f c3 h
      refine w_aload_n 0 ((some (57))) dX12_costOf_26 rfl rfl ?_
      refine w_get (v := va_rf (some 78)) dX12_costOf_27 fl_RX12_83 ⟨rfl, Or.inr ⟨rfl, by decide⟩⟩ (aFv_k rfl) ?_
      refine w_iload 4 dX12_costOf_30 rfl ?_
      replace h := e_grd h; obtain ⟨b4, h⟩ := h
      refine w_iaload dX12_costOf_32 ⟨rfl, Or.inr ⟨rfl, by decide⟩⟩ b4 ?_
      refine w_iload_n 2 dX12_costOf_33 rfl rfl ?_
      refine w_icmp_lt 64 dX12_costOf_34 (by decide) (fun c5 => ?_) (fun c5 => ?_)
      · replace h := e_t c5 h
        refine w_aload_n 0 ((some (57))) dX12_costOf_64 rfl rfl ?_
        refine w_get (v := va_rf (some 78)) dX12_costOf_65 fl_RX12_83 ⟨rfl, Or.inr ⟨rfl, by decide⟩⟩ (aFv_k rfl) ?_
        refine w_iload 4 dX12_costOf_68 rfl ?_
        replace h := e_grd h; obtain ⟨b6, h⟩ := h
        refine w_iaload dX12_costOf_70 ⟨rfl, Or.inr ⟨rfl, by decide⟩⟩ b6 ?_
        refine w_iload_n 1 dX12_costOf_71 rfl rfl ?_
        refine w_icmp_lt 88 dX12_costOf_72 (by decide) (fun c7 => ?_) (fun c7 => ?_)
        · replace h := e_t c7 h
          refine w_lload_n 3 dX12_costOf_88 rfl rfl ?_
          refine w_aload_n 0 ((some (57))) dX12_costOf_89 rfl rfl ?_
          refine w_get (v := va_rf (some 67)) dX12_costOf_90 fl_RX12_37 ⟨rfl, Or.inr ⟨rfl, by decide⟩⟩ (aFv_k rfl) ?_
          refine w_iload 4 dX12_costOf_93 rfl ?_
          replace h := e_grd h; obtain ⟨b8, h⟩ := h
          refine w_iaload dX12_costOf_95 ⟨rfl, Or.inr ⟨rfl, by decide⟩⟩ b8 ?_
          refine w_iconst (v := 1) dX12_costOf_96 (by decide) ?_
          refine w_icmp_ne 111 dX12_costOf_97 (by decide) (fun c9 => ?_) (fun c9 => ?_)
          · replace h := e_f c9 h
            refine w_lconst (v := 0) dX12_costOf_111 (by decide) ?_
            refine w_sub [0, 1, 2, 4] rfl ?_
            exact l_X12_costOf_112 rec5 hrec5 _ _ _ _ _ _ _ h
          · replace h := e_t c9 h
            refine w_aload_n 0 ((some (57))) dX12_costOf_100 rfl rfl ?_
            refine w_get (v := va_rf (some 65)) dX12_costOf_101 fl_RX12_31 ⟨rfl, Or.inr ⟨rfl, by decide⟩⟩ (aFv_k rfl) ?_
            refine w_iload 4 dX12_costOf_104 rfl ?_
            replace h := e_grd h; obtain ⟨b10, h⟩ := h
            refine w_iaload dX12_costOf_106 ⟨rfl, Or.inr ⟨rfl, by decide⟩⟩ b10 ?_
            refine w_i2l dX12_costOf_107 ?_
            refine w_goto 112 dX12_costOf_108 (by decide) ?_
            refine w_sub [0, 1, 2, 4] rfl ?_
            exact l_X12_costOf_112 rec5 hrec5 _ _ _ _ _ _ _ h
        · replace h := e_f c7 h
          refine w_lload_n 3 dX12_costOf_75 rfl rfl ?_
          refine w_aload_n 0 ((some (57))) dX12_costOf_76 rfl rfl ?_
          refine w_get (v := va_rf (some 80)) dX12_costOf_77 fl_RX12_89 ⟨rfl, Or.inr ⟨rfl, by decide⟩⟩ (aFv_k rfl) ?_
          refine w_iconst (v := 1) dX12_costOf_80 (by decide) ?_
          refine w_iaload dX12_costOf_81 ⟨rfl, Or.inr ⟨rfl, by decide⟩⟩ (by decide) ?_
          refine w_i2l dX12_costOf_82 ?_
          refine w_ladd dX12_costOf_83 ?_
          refine w_lstore_n dX12_costOf_84 rfl (by decide) rfl ?_
          refine w_goto 114 dX12_costOf_85 (by decide) ?_
          refine w_sub [1, 2, 3, 0, 4] rfl ?_
          exact l_X12_costOf_114 rec5 hrec5 _ _ _ _ _ _ h
      · replace h := e_f c5 h
        refine w_lload_n 3 dX12_costOf_37 rfl rfl ?_
        refine w_aload_n 0 ((some (57))) dX12_costOf_38 rfl rfl ?_
        refine w_get (v := va_rf (some 67)) dX12_costOf_39 fl_RX12_37 ⟨rfl, Or.inr ⟨rfl, by decide⟩⟩ (aFv_k rfl) ?_
        refine w_iload 4 dX12_costOf_42 rfl ?_
        replace h := e_grd h; obtain ⟨b12, h⟩ := h
        refine w_iaload dX12_costOf_44 ⟨rfl, Or.inr ⟨rfl, by decide⟩⟩ b12 ?_
        refine w_if_ne 58 dX12_costOf_45 (by decide) (fun c13 => ?_) (fun c13 => ?_)
        · replace h := e_f c13 h
          refine w_lconst (v := 0) dX12_costOf_58 (by decide) ?_
          refine w_sub [0, 1, 2, 4] rfl ?_
          exact l_X12_costOf_59 rec5 hrec5 _ _ _ _ _ _ _ h
        · replace h := e_t c13 h
          refine w_aload_n 0 ((some (57))) dX12_costOf_48 rfl rfl ?_
          refine w_get (v := va_rf (some 80)) dX12_costOf_49 fl_RX12_89 ⟨rfl, Or.inr ⟨rfl, by decide⟩⟩ (aFv_k rfl) ?_
          refine w_iconst (v := 0) dX12_costOf_52 (by decide) ?_
          refine w_iaload dX12_costOf_53 ⟨rfl, Or.inr ⟨rfl, by decide⟩⟩ (by decide) ?_
          refine w_i2l dX12_costOf_54 ?_
          refine w_goto 59 dX12_costOf_55 (by decide) ?_
          refine w_sub [0, 1, 2, 4] rfl ?_
          exact l_X12_costOf_59 rec5 hrec5 _ _ _ _ _ _ _ h
theorem l_X12_costOf_5  : ∀ (n : Nat) (x1 : Int32) (x2 : Int32) (x3 : Int64) (x5 : Int32) (σ : aSt) (o : Int64 × aSt), f_X12_costOf_5  n x1 x2 x3 x5 σ = some o → AW true m_X12_costOf 5 [(0, va_rf (some (57))), (1, Value.int (x1)), (2, Value.int (x2)), (3, Value.long (x3)), (5, Value.int (x5))] [] σ 0 0 (some (.long o.1)) o.2
  | 0 => fun x1 x2 x3 x5 σ o h => by cases h
  | n + 1 => fun x1 x2 x3 x5 σ o h => l_X12_costOf_5_b (f_X12_costOf_5  n) (l_X12_costOf_5  n) x1 x2 x3 x5 σ o h
set_option maxRecDepth 100000 in
set_option maxHeartbeats 4000000 in
theorem c_X12_costOf (p1 : Int32) (p2 : Int32) (σ : aSt) (o : Int64 × aSt) (h : f_X12_costOf p1 p2 σ = some o) : AM true m_X12_costOf [va_rf (some (57)), .int (p1), .int (p2)] σ (some (.long o.1)) o.2 := by
  refine AM_of2 (lv := [(0, va_rf (some (57))), (1, Value.int (p1)), (2, Value.int (p2))]) (by decide +kernel) rfl (Nat.le_of_ble_eq_true rfl) ?_
  unfold f_X12_costOf at h
  refine w_lconst (v := 0) dX12_costOf_0 (by decide) ?_
  refine w_lstore_n dX12_costOf_1 rfl (by decide) rfl ?_
  refine w_iconst (v := 0) dX12_costOf_2 (by decide) ?_
  refine w_istore dX12_costOf_3 (by decide) rfl ?_
  refine w_sub [2, 3, 4, 1, 0] rfl ?_
  exact l_X12_costOf_5 aN _ _ _ _ _ _ h
theorem dX12_setting_0 : decode cX12_setting 0 = .ok (.aload_n 0, 1) := by decide +kernel
theorem dX12_setting_1 : decode cX12_setting 1 = .ok (.iconst 0, 1) := by decide +kernel
theorem dX12_setting_2 : decode cX12_setting 2 = .ok (.putfield 102, 3) := by decide +kernel
theorem dX12_setting_5 : decode cX12_setting 5 = .ok (.iload_n 1, 1) := by decide +kernel
theorem dX12_setting_6 : decode cX12_setting 6 = .ok (.i2l, 1) := by decide +kernel
theorem dX12_setting_7 : decode cX12_setting 7 = .ok (.lconst 0, 1) := by decide +kernel
theorem dX12_setting_8 : decode cX12_setting 8 = .ok (.ldc2_w 320, 3) := by decide +kernel
theorem dX12_setting_11 : decode cX12_setting 11 = .ok (.invokestatic 111, 3) := by decide +kernel
theorem dX12_setting_14 : decode cX12_setting 14 = .ok (.ifCond .eq 16, 3) := by decide +kernel
theorem dX12_setting_17 : decode cX12_setting 17 = .ok (.iload_n 2, 1) := by decide +kernel
theorem dX12_setting_18 : decode cX12_setting 18 = .ok (.i2l, 1) := by decide +kernel
theorem dX12_setting_19 : decode cX12_setting 19 = .ok (.iload_n 1, 1) := by decide +kernel
theorem dX12_setting_20 : decode cX12_setting 20 = .ok (.i2l, 1) := by decide +kernel
theorem dX12_setting_21 : decode cX12_setting 21 = .ok (.ldc2_w 320, 3) := by decide +kernel
theorem dX12_setting_24 : decode cX12_setting 24 = .ok (.invokestatic 111, 3) := by decide +kernel
theorem dX12_setting_27 : decode cX12_setting 27 = .ok (.ifCond .ne 7, 3) := by decide +kernel
theorem dX12_setting_30 : decode cX12_setting 30 = .ok (.ldc2_w 322, 3) := by decide +kernel
theorem dX12_setting_33 : decode cX12_setting 33 = .ok (.lreturn, 1) := by decide +kernel
theorem dX12_setting_34 : decode cX12_setting 34 = .ok (.aload_n 0, 1) := by decide +kernel
theorem dX12_setting_35 : decode cX12_setting 35 = .ok (.invokevirtual 324, 3) := by decide +kernel
theorem dX12_setting_38 : decode cX12_setting 38 = .ok (.aload_n 0, 1) := by decide +kernel
theorem dX12_setting_39 : decode cX12_setting 39 = .ok (.iload_n 1, 1) := by decide +kernel
theorem dX12_setting_40 : decode cX12_setting 40 = .ok (.iload_n 2, 1) := by decide +kernel
theorem dX12_setting_41 : decode cX12_setting 41 = .ok (.invokevirtual 327, 3) := by decide +kernel
theorem dX12_setting_44 : decode cX12_setting 44 = .ok (.lreturn, 1) := by decide +kernel
theorem kd_X12_setting : aKd m_X12_setting 2 := ⟨wd_41_15, wd_1_5, ⟨by decide +kernel, by decide +kernel, by decide +kernel⟩⟩
set_option maxRecDepth 100000 in
set_option maxHeartbeats 4000000 in
theorem l_X12_setting_30   (σ : aSt) (o : Int64 × aSt) (h : f_X12_setting_30   σ = some o) : AW true m_X12_setting 30 [] [] σ 0 0 (some (.long o.1)) o.2 := by
  unfold f_X12_setting_30 at h
  refine w_ldc2 (v := (-1000001)) dX12_setting_30 wd_41_17 ?_
  obtain rfl := Option.some.inj h
  exact w_lreturn dX12_setting_33 rfl (Nat.le_of_ble_eq_true rfl) (Nat.le_of_ble_eq_true rfl)
set_option maxRecDepth 100000 in
set_option maxHeartbeats 4000000 in
theorem c_X12_setting (p1 : Int32) (p2 : Int32) (σ : aSt) (o : Int64 × aSt) (h : f_X12_setting p1 p2 σ = some o) : AM true m_X12_setting [va_rf (some (57)), .int (p1), .int (p2)] σ (some (.long o.1)) o.2 := by
  refine AM_of2 (lv := [(0, va_rf (some (57))), (1, Value.int (p1)), (2, Value.int (p2))]) (by decide +kernel) rfl (Nat.le_of_ble_eq_true rfl) ?_
  unfold f_X12_setting at h
  refine w_aload_n 0 ((some (57))) dX12_setting_0 rfl rfl ?_
  refine w_iconst (v := 0) dX12_setting_1 (by decide) ?_
  refine w_putI dX12_setting_2 fl_RX12_102 (Or.inl rfl) rfl ⟨rfl, Or.inr ⟨rfl, by decide⟩⟩ ?_
  refine w_iload_n 1 dX12_setting_5 rfl rfl ?_
  refine w_i2l dX12_setting_6 ?_
  refine w_lconst (v := 0) dX12_setting_7 (by decide) ?_
  refine w_ldc2 (v := 20000) dX12_setting_8 wd_41_16 ?_
  replace h := e_bind h; obtain ⟨q1, e2, h⟩ := h
  refine w_callS1 (M2 := m_X12_in) (av := [.long (p1.toInt64), .long (0), .long (20000)]) (c_X12_in _ _ _ _ _ e2) dX12_setting_11 kd_X12_in wd_11_3 wd_11_4 rfl rfl ⟨Nat.le_of_ble_eq_true rfl, Nat.le_of_ble_eq_true rfl, Nat.le_of_ble_eq_true rfl, Nat.le_of_ble_eq_true rfl⟩ (Nat.le_of_ble_eq_true rfl) ?_
  refine w_if_eq 30 dX12_setting_14 (by decide) (fun c3 => ?_) (fun c3 => ?_)
  · replace h := e_t c3 h
    refine w_sub [] rfl ?_
    exact l_X12_setting_30 _ _ h
  · replace h := e_f c3 h
    refine w_iload_n 2 dX12_setting_17 rfl rfl ?_
    refine w_i2l dX12_setting_18 ?_
    refine w_iload_n 1 dX12_setting_19 rfl rfl ?_
    refine w_i2l dX12_setting_20 ?_
    refine w_ldc2 (v := 20000) dX12_setting_21 wd_41_16 ?_
    replace h := e_bind h; obtain ⟨q4, e5, h⟩ := h
    refine w_callS1 (M2 := m_X12_in) (av := [.long (p2.toInt64), .long (p1.toInt64), .long (20000)]) (c_X12_in _ _ _ _ _ e5) dX12_setting_24 kd_X12_in wd_11_3 wd_11_4 rfl rfl ⟨Nat.le_of_ble_eq_true rfl, Nat.le_of_ble_eq_true rfl, Nat.le_of_ble_eq_true rfl, Nat.le_of_ble_eq_true rfl⟩ (Nat.le_of_ble_eq_true rfl) ?_
    refine w_if_ne 34 dX12_setting_27 (by decide) (fun c6 => ?_) (fun c6 => ?_)
    · replace h := e_f c6 h
      refine w_aload_n 0 ((some (57))) dX12_setting_34 rfl rfl ?_
      replace h := e_bind h; obtain ⟨q7, e8, h⟩ := h
      refine w_callV0 (M2 := m_X12_findScores) (av := []) (ci := 12) (c_X12_findScores  _ _ e8) dX12_setting_35 kd_X12_findScores wd_41_18 wd_41_19 wd_41_20 rfl rfl ⟨rfl, Or.inr ⟨rfl, by decide⟩⟩ rfl ⟨Nat.le_of_ble_eq_true rfl, Nat.le_of_ble_eq_true rfl, Nat.le_of_ble_eq_true rfl, Nat.le_of_ble_eq_true rfl⟩ (Nat.le_of_ble_eq_true rfl) ?_
      refine w_aload_n 0 ((some (57))) dX12_setting_38 rfl rfl ?_
      refine w_iload_n 1 dX12_setting_39 rfl rfl ?_
      refine w_iload_n 2 dX12_setting_40 rfl rfl ?_
      replace h := e_bind h; obtain ⟨q9, e10, h⟩ := h
      refine w_callV1 (M2 := m_X12_costOf) (av := [.int (p1), .int (p2)]) (ci := 12) (c_X12_costOf _ _ _ _ e10) dX12_setting_41 kd_X12_costOf wd_41_22 wd_41_23 wd_42_0 rfl rfl ⟨rfl, Or.inr ⟨rfl, by decide⟩⟩ rfl ⟨Nat.le_of_ble_eq_true rfl, Nat.le_of_ble_eq_true rfl, Nat.le_of_ble_eq_true rfl, Nat.le_of_ble_eq_true rfl⟩ (Nat.le_of_ble_eq_true rfl) ?_
      obtain rfl := Option.some.inj h
      exact w_lreturn dX12_setting_44 rfl (Nat.le_of_ble_eq_true rfl) (Nat.le_of_ble_eq_true rfl)
    · replace h := e_t c6 h
      refine w_sub [] rfl ?_
      exact l_X12_setting_30 _ _ h
theorem dX12_bestSetting_0 : decode cX12_bestSetting 0 = .ok (.aload_n 0, 1) := by decide +kernel
theorem dX12_bestSetting_1 : decode cX12_bestSetting 1 = .ok (.iconst 0, 1) := by decide +kernel
theorem dX12_bestSetting_2 : decode cX12_bestSetting 2 = .ok (.putfield 102, 3) := by decide +kernel
theorem dX12_bestSetting_5 : decode cX12_bestSetting 5 = .ok (.iload_n 1, 1) := by decide +kernel
theorem dX12_bestSetting_6 : decode cX12_bestSetting 6 = .ok (.i2l, 1) := by decide +kernel
theorem dX12_bestSetting_7 : decode cX12_bestSetting 7 = .ok (.lconst 0, 1) := by decide +kernel
theorem dX12_bestSetting_8 : decode cX12_bestSetting 8 = .ok (.ldc2_w 119, 3) := by decide +kernel
theorem dX12_bestSetting_11 : decode cX12_bestSetting 11 = .ok (.invokestatic 111, 3) := by decide +kernel
theorem dX12_bestSetting_14 : decode cX12_bestSetting 14 = .ok (.ifCond .ne 7, 3) := by decide +kernel
theorem dX12_bestSetting_17 : decode cX12_bestSetting 17 = .ok (.ldc2_w 322, 3) := by decide +kernel
theorem dX12_bestSetting_20 : decode cX12_bestSetting 20 = .ok (.lreturn, 1) := by decide +kernel
theorem dX12_bestSetting_21 : decode cX12_bestSetting 21 = .ok (.aload_n 0, 1) := by decide +kernel
theorem dX12_bestSetting_22 : decode cX12_bestSetting 22 = .ok (.invokevirtual 324, 3) := by decide +kernel
theorem dX12_bestSetting_25 : decode cX12_bestSetting 25 = .ok (.aload_n 0, 1) := by decide +kernel
theorem dX12_bestSetting_26 : decode cX12_bestSetting 26 = .ok (.iconst 0, 1) := by decide +kernel
theorem dX12_bestSetting_27 : decode cX12_bestSetting 27 = .ok (.iconst 0, 1) := by decide +kernel
theorem dX12_bestSetting_28 : decode cX12_bestSetting 28 = .ok (.invokevirtual 327, 3) := by decide +kernel
theorem dX12_bestSetting_31 : decode cX12_bestSetting 31 = .ok (.lstore_n 2, 1) := by decide +kernel
theorem dX12_bestSetting_32 : decode cX12_bestSetting 32 = .ok (.iconst 0, 1) := by decide +kernel
theorem dX12_bestSetting_33 : decode cX12_bestSetting 33 = .ok (.istore 4, 2) := by decide +kernel
theorem dX12_bestSetting_35 : decode cX12_bestSetting 35 = .ok (.iconst 0, 1) := by decide +kernel
theorem dX12_bestSetting_36 : decode cX12_bestSetting 36 = .ok (.istore 5, 2) := by decide +kernel
theorem dX12_bestSetting_38 : decode cX12_bestSetting 38 = .ok (.iconst (-1), 1) := by decide +kernel
theorem dX12_bestSetting_39 : decode cX12_bestSetting 39 = .ok (.istore 6, 2) := by decide +kernel
theorem dX12_bestSetting_41 : decode cX12_bestSetting 41 = .ok (.iload 6, 2) := by decide +kernel
theorem dX12_bestSetting_43 : decode cX12_bestSetting 43 = .ok (.aload_n 0, 1) := by decide +kernel
theorem dX12_bestSetting_44 : decode cX12_bestSetting 44 = .ok (.getfield 127, 3) := by decide +kernel
theorem dX12_bestSetting_47 : decode cX12_bestSetting 47 = .ok (.if_icmp .ge 176, 3) := by decide +kernel
theorem dX12_bestSetting_50 : decode cX12_bestSetting 50 = .ok (.iload 6, 2) := by decide +kernel
theorem dX12_bestSetting_52 : decode cX12_bestSetting 52 = .ok (.ifCond .ge 7, 3) := by decide +kernel
theorem dX12_bestSetting_55 : decode cX12_bestSetting 55 = .ok (.iconst 0, 1) := by decide +kernel
theorem dX12_bestSetting_56 : decode cX12_bestSetting 56 = .ok (.goto 12, 3) := by decide +kernel
theorem dX12_bestSetting_59 : decode cX12_bestSetting 59 = .ok (.aload_n 0, 1) := by decide +kernel
theorem dX12_bestSetting_60 : decode cX12_bestSetting 60 = .ok (.getfield 83, 3) := by decide +kernel
theorem dX12_bestSetting_63 : decode cX12_bestSetting 63 = .ok (.iload 6, 2) := by decide +kernel
theorem dX12_bestSetting_65 : decode cX12_bestSetting 65 = .ok (.iaload, 1) := by decide +kernel
theorem dX12_bestSetting_66 : decode cX12_bestSetting 66 = .ok (.iconst 1, 1) := by decide +kernel
theorem dX12_bestSetting_67 : decode cX12_bestSetting 67 = .ok (.iadd, 1) := by decide +kernel
theorem dX12_bestSetting_68 : decode cX12_bestSetting 68 = .ok (.istore 7, 2) := by decide +kernel
theorem dX12_bestSetting_70 : decode cX12_bestSetting 70 = .ok (.iconst (-1), 1) := by decide +kernel
theorem dX12_bestSetting_71 : decode cX12_bestSetting 71 = .ok (.istore 8, 2) := by decide +kernel
theorem dX12_bestSetting_73 : decode cX12_bestSetting 73 = .ok (.iload 8, 2) := by decide +kernel
theorem dX12_bestSetting_75 : decode cX12_bestSetting 75 = .ok (.aload_n 0, 1) := by decide +kernel
theorem dX12_bestSetting_76 : decode cX12_bestSetting 76 = .ok (.getfield 127, 3) := by decide +kernel
theorem dX12_bestSetting_79 : decode cX12_bestSetting 79 = .ok (.if_icmp .ge 138, 3) := by decide +kernel
theorem dX12_bestSetting_82 : decode cX12_bestSetting 82 = .ok (.iload 8, 2) := by decide +kernel
theorem dX12_bestSetting_84 : decode cX12_bestSetting 84 = .ok (.ifCond .ge 7, 3) := by decide +kernel
theorem dX12_bestSetting_87 : decode cX12_bestSetting 87 = .ok (.iconst 0, 1) := by decide +kernel
theorem dX12_bestSetting_88 : decode cX12_bestSetting 88 = .ok (.goto 12, 3) := by decide +kernel
theorem dX12_bestSetting_91 : decode cX12_bestSetting 91 = .ok (.aload_n 0, 1) := by decide +kernel
theorem dX12_bestSetting_92 : decode cX12_bestSetting 92 = .ok (.getfield 83, 3) := by decide +kernel
theorem dX12_bestSetting_95 : decode cX12_bestSetting 95 = .ok (.iload 8, 2) := by decide +kernel
theorem dX12_bestSetting_97 : decode cX12_bestSetting 97 = .ok (.iaload, 1) := by decide +kernel
theorem dX12_bestSetting_98 : decode cX12_bestSetting 98 = .ok (.iconst 1, 1) := by decide +kernel
theorem dX12_bestSetting_99 : decode cX12_bestSetting 99 = .ok (.iadd, 1) := by decide +kernel
theorem dX12_bestSetting_100 : decode cX12_bestSetting 100 = .ok (.istore 9, 2) := by decide +kernel
theorem dX12_bestSetting_102 : decode cX12_bestSetting 102 = .ok (.iload 7, 2) := by decide +kernel
theorem dX12_bestSetting_104 : decode cX12_bestSetting 104 = .ok (.iload 9, 2) := by decide +kernel
theorem dX12_bestSetting_106 : decode cX12_bestSetting 106 = .ok (.if_icmp .gt 41, 3) := by decide +kernel
theorem dX12_bestSetting_109 : decode cX12_bestSetting 109 = .ok (.iload 6, 2) := by decide +kernel
theorem dX12_bestSetting_111 : decode cX12_bestSetting 111 = .ok (.ifCond .lt 15, 3) := by decide +kernel
theorem dX12_bestSetting_114 : decode cX12_bestSetting 114 = .ok (.aload_n 0, 1) := by decide +kernel
theorem dX12_bestSetting_115 : decode cX12_bestSetting 115 = .ok (.getfield 37, 3) := by decide +kernel
theorem dX12_bestSetting_118 : decode cX12_bestSetting 118 = .ok (.iload 6, 2) := by decide +kernel
theorem dX12_bestSetting_120 : decode cX12_bestSetting 120 = .ok (.iaload, 1) := by decide +kernel
theorem dX12_bestSetting_121 : decode cX12_bestSetting 121 = .ok (.ldc 126, 2) := by decide +kernel
theorem dX12_bestSetting_123 : decode cX12_bestSetting 123 = .ok (.if_icmp .eq 24, 3) := by decide +kernel
theorem dX12_bestSetting_126 : decode cX12_bestSetting 126 = .ok (.iload 8, 2) := by decide +kernel
theorem dX12_bestSetting_128 : decode cX12_bestSetting 128 = .ok (.ifCond .lt 15, 3) := by decide +kernel
theorem dX12_bestSetting_131 : decode cX12_bestSetting 131 = .ok (.aload_n 0, 1) := by decide +kernel
theorem dX12_bestSetting_132 : decode cX12_bestSetting 132 = .ok (.getfield 37, 3) := by decide +kernel
theorem dX12_bestSetting_135 : decode cX12_bestSetting 135 = .ok (.iload 8, 2) := by decide +kernel
theorem dX12_bestSetting_137 : decode cX12_bestSetting 137 = .ok (.iaload, 1) := by decide +kernel
theorem dX12_bestSetting_138 : decode cX12_bestSetting 138 = .ok (.ldc 126, 2) := by decide +kernel
theorem dX12_bestSetting_140 : decode cX12_bestSetting 140 = .ok (.if_icmp .eq 7, 3) := by decide +kernel
theorem dX12_bestSetting_143 : decode cX12_bestSetting 143 = .ok (.iconst 1, 1) := by decide +kernel
theorem dX12_bestSetting_144 : decode cX12_bestSetting 144 = .ok (.goto 4, 3) := by decide +kernel
theorem dX12_bestSetting_147 : decode cX12_bestSetting 147 = .ok (.iconst 0, 1) := by decide +kernel
theorem dX12_bestSetting_148 : decode cX12_bestSetting 148 = .ok (.istore 10, 2) := by decide +kernel
theorem dX12_bestSetting_150 : decode cX12_bestSetting 150 = .ok (.iload 10, 2) := by decide +kernel
theorem dX12_bestSetting_152 : decode cX12_bestSetting 152 = .ok (.ifCond .eq 59, 3) := by decide +kernel
theorem dX12_bestSetting_155 : decode cX12_bestSetting 155 = .ok (.aload_n 0, 1) := by decide +kernel
theorem dX12_bestSetting_156 : decode cX12_bestSetting 156 = .ok (.iload 7, 2) := by decide +kernel
theorem dX12_bestSetting_158 : decode cX12_bestSetting 158 = .ok (.iload 9, 2) := by decide +kernel
theorem dX12_bestSetting_160 : decode cX12_bestSetting 160 = .ok (.invokevirtual 327, 3) := by decide +kernel
theorem dX12_bestSetting_163 : decode cX12_bestSetting 163 = .ok (.lstore 11, 2) := by decide +kernel
theorem dX12_bestSetting_165 : decode cX12_bestSetting 165 = .ok (.lload 11, 2) := by decide +kernel
theorem dX12_bestSetting_167 : decode cX12_bestSetting 167 = .ok (.lload_n 2, 1) := by decide +kernel
theorem dX12_bestSetting_168 : decode cX12_bestSetting 168 = .ok (.lcmp, 1) := by decide +kernel
theorem dX12_bestSetting_169 : decode cX12_bestSetting 169 = .ok (.ifCond .lt 31, 3) := by decide +kernel
theorem dX12_bestSetting_172 : decode cX12_bestSetting 172 = .ok (.lload 11, 2) := by decide +kernel
theorem dX12_bestSetting_174 : decode cX12_bestSetting 174 = .ok (.lload_n 2, 1) := by decide +kernel
theorem dX12_bestSetting_175 : decode cX12_bestSetting 175 = .ok (.lcmp, 1) := by decide +kernel
theorem dX12_bestSetting_176 : decode cX12_bestSetting 176 = .ok (.ifCond .ne 35, 3) := by decide +kernel
theorem dX12_bestSetting_179 : decode cX12_bestSetting 179 = .ok (.iload 7, 2) := by decide +kernel
theorem dX12_bestSetting_181 : decode cX12_bestSetting 181 = .ok (.iload 4, 2) := by decide +kernel
theorem dX12_bestSetting_183 : decode cX12_bestSetting 183 = .ok (.if_icmp .lt 17, 3) := by decide +kernel
theorem dX12_bestSetting_186 : decode cX12_bestSetting 186 = .ok (.iload 7, 2) := by decide +kernel
theorem dX12_bestSetting_188 : decode cX12_bestSetting 188 = .ok (.iload 4, 2) := by decide +kernel
theorem dX12_bestSetting_190 : decode cX12_bestSetting 190 = .ok (.if_icmp .ne 21, 3) := by decide +kernel
theorem dX12_bestSetting_193 : decode cX12_bestSetting 193 = .ok (.iload 9, 2) := by decide +kernel
theorem dX12_bestSetting_195 : decode cX12_bestSetting 195 = .ok (.iload 5, 2) := by decide +kernel
theorem dX12_bestSetting_197 : decode cX12_bestSetting 197 = .ok (.if_icmp .ge 14, 3) := by decide +kernel
theorem dX12_bestSetting_200 : decode cX12_bestSetting 200 = .ok (.lload 11, 2) := by decide +kernel
theorem dX12_bestSetting_202 : decode cX12_bestSetting 202 = .ok (.lstore_n 2, 1) := by decide +kernel
theorem dX12_bestSetting_203 : decode cX12_bestSetting 203 = .ok (.iload 7, 2) := by decide +kernel
theorem dX12_bestSetting_205 : decode cX12_bestSetting 205 = .ok (.istore 4, 2) := by decide +kernel
theorem dX12_bestSetting_207 : decode cX12_bestSetting 207 = .ok (.iload 9, 2) := by decide +kernel
theorem dX12_bestSetting_209 : decode cX12_bestSetting 209 = .ok (.istore 5, 2) := by decide +kernel
theorem dX12_bestSetting_211 : decode cX12_bestSetting 211 = .ok (.iinc 8 1, 3) := by decide +kernel
theorem dX12_bestSetting_214 : decode cX12_bestSetting 214 = .ok (.goto (-141), 3) := by decide +kernel
theorem dX12_bestSetting_217 : decode cX12_bestSetting 217 = .ok (.iinc 6 1, 3) := by decide +kernel
theorem dX12_bestSetting_220 : decode cX12_bestSetting 220 = .ok (.goto (-179), 3) := by decide +kernel
theorem dX12_bestSetting_223 : decode cX12_bestSetting 223 = .ok (.iload_n 1, 1) := by decide +kernel
theorem dX12_bestSetting_224 : decode cX12_bestSetting 224 = .ok (.ifCond .ne 9, 3) := by decide +kernel
theorem dX12_bestSetting_227 : decode cX12_bestSetting 227 = .ok (.iload 4, 2) := by decide +kernel
theorem dX12_bestSetting_229 : decode cX12_bestSetting 229 = .ok (.i2l, 1) := by decide +kernel
theorem dX12_bestSetting_230 : decode cX12_bestSetting 230 = .ok (.goto 15, 3) := by decide +kernel
theorem dX12_bestSetting_233 : decode cX12_bestSetting 233 = .ok (.iload_n 1, 1) := by decide +kernel
theorem dX12_bestSetting_234 : decode cX12_bestSetting 234 = .ok (.iconst 1, 1) := by decide +kernel
theorem dX12_bestSetting_235 : decode cX12_bestSetting 235 = .ok (.if_icmp .ne 9, 3) := by decide +kernel
theorem dX12_bestSetting_238 : decode cX12_bestSetting 238 = .ok (.iload 5, 2) := by decide +kernel
theorem dX12_bestSetting_240 : decode cX12_bestSetting 240 = .ok (.i2l, 1) := by decide +kernel
theorem dX12_bestSetting_241 : decode cX12_bestSetting 241 = .ok (.goto 4, 3) := by decide +kernel
theorem dX12_bestSetting_244 : decode cX12_bestSetting 244 = .ok (.lload_n 2, 1) := by decide +kernel
theorem dX12_bestSetting_245 : decode cX12_bestSetting 245 = .ok (.lreturn, 1) := by decide +kernel
theorem kd_X12_bestSetting : aKd m_X12_bestSetting 1 := ⟨wd_43_2, wd_1_5, ⟨by decide +kernel, by decide +kernel, by decide +kernel⟩⟩
set_option maxRecDepth 100000 in
set_option maxHeartbeats 4000000 in
theorem l_X12_bestSetting_211 (rec41 : Int32 → Int64 → Int32 → Int32 → Int32 → aSt → Option (Int64 × aSt)) (hrec41 : ∀ (x1 : Int32) (x2 : Int64) (x4 : Int32) (x5 : Int32) (x6 : Int32) (σ : aSt) (o : Int64 × aSt), rec41 x1 x2 x4 x5 x6 σ = some o → AW true m_X12_bestSetting 41 [(0, va_rf (some (57))), (1, Value.int (x1)), (2, Value.long (x2)), (4, Value.int (x4)), (5, Value.int (x5)), (6, Value.int (x6))] [] σ 0 0 (some (.long o.1)) o.2) (rec73 : Int32 → Int64 → Int32 → Int32 → Int32 → Int32 → Int32 → aSt → Option (Int64 × aSt)) (hrec73 : ∀ (x1 : Int32) (x2 : Int64) (x4 : Int32) (x5 : Int32) (x6 : Int32) (x7 : Int32) (x8 : Int32) (σ : aSt) (o : Int64 × aSt), rec73 x1 x2 x4 x5 x6 x7 x8 σ = some o → AW true m_X12_bestSetting 73 [(0, va_rf (some (57))), (1, Value.int (x1)), (2, Value.long (x2)), (4, Value.int (x4)), (5, Value.int (x5)), (6, Value.int (x6)), (7, Value.int (x7)), (8, Value.int (x8))] [] σ 0 0 (some (.long o.1)) o.2) (x1 : Int32) (x2 : Int64) (x4 : Int32) (x5 : Int32) (x6 : Int32) (x7 : Int32) (x8 : Int32) (σ : aSt) (o : Int64 × aSt) (h : f_X12_bestSetting_211 rec41 rec73 x1 x2 x4 x5 x6 x7 x8 σ = some o) : AW true m_X12_bestSetting 211 [(0, va_rf (some (57))), (1, Value.int (x1)), (2, Value.long (x2)), (4, Value.int (x4)), (5, Value.int (x5)), (6, Value.int (x6)), (7, Value.int (x7)), (8, Value.int (x8))] [] σ 0 0 (some (.long o.1)) o.2 := by
  unfold f_X12_bestSetting_211 at h
  refine w_iinc (q := 7) (v := x8 + 1) dX12_bestSetting_211 rfl rfl (by decide) rfl ?_
  refine w_goto 73 dX12_bestSetting_214 (by decide) ?_
  refine w_sub [1, 2, 3, 4, 5, 6, 7, 0] rfl ?_
  exact hrec73 _ _ _ _ _ _ _ _ _ h
set_option maxRecDepth 100000 in
set_option maxHeartbeats 4000000 in
theorem l_X12_bestSetting_200 (rec41 : Int32 → Int64 → Int32 → Int32 → Int32 → aSt → Option (Int64 × aSt)) (hrec41 : ∀ (x1 : Int32) (x2 : Int64) (x4 : Int32) (x5 : Int32) (x6 : Int32) (σ : aSt) (o : Int64 × aSt), rec41 x1 x2 x4 x5 x6 σ = some o → AW true m_X12_bestSetting 41 [(0, va_rf (some (57))), (1, Value.int (x1)), (2, Value.long (x2)), (4, Value.int (x4)), (5, Value.int (x5)), (6, Value.int (x6))] [] σ 0 0 (some (.long o.1)) o.2) (rec73 : Int32 → Int64 → Int32 → Int32 → Int32 → Int32 → Int32 → aSt → Option (Int64 × aSt)) (hrec73 : ∀ (x1 : Int32) (x2 : Int64) (x4 : Int32) (x5 : Int32) (x6 : Int32) (x7 : Int32) (x8 : Int32) (σ : aSt) (o : Int64 × aSt), rec73 x1 x2 x4 x5 x6 x7 x8 σ = some o → AW true m_X12_bestSetting 73 [(0, va_rf (some (57))), (1, Value.int (x1)), (2, Value.long (x2)), (4, Value.int (x4)), (5, Value.int (x5)), (6, Value.int (x6)), (7, Value.int (x7)), (8, Value.int (x8))] [] σ 0 0 (some (.long o.1)) o.2) (x1 : Int32) (x6 : Int32) (x7 : Int32) (x8 : Int32) (x9 : Int32) (x11 : Int64) (σ : aSt) (o : Int64 × aSt) (h : f_X12_bestSetting_200 rec41 rec73 x1 x6 x7 x8 x9 x11 σ = some o) : AW true m_X12_bestSetting 200 [(0, va_rf (some (57))), (1, Value.int (x1)), (6, Value.int (x6)), (7, Value.int (x7)), (8, Value.int (x8)), (9, Value.int (x9)), (11, Value.long (x11))] [] σ 0 0 (some (.long o.1)) o.2 := by
  unfold f_X12_bestSetting_200 at h
  refine w_lload 6 dX12_bestSetting_200 rfl ?_
  refine w_lstore_n dX12_bestSetting_202 rfl (by decide) rfl ?_
  refine w_iload 4 dX12_bestSetting_203 rfl ?_
  refine w_istore dX12_bestSetting_205 (by decide) rfl ?_
  refine w_iload 7 dX12_bestSetting_207 rfl ?_
  refine w_istore dX12_bestSetting_209 (by decide) rfl ?_
  refine w_sub [3, 4, 2, 1, 0, 5, 6, 7] rfl ?_
  exact l_X12_bestSetting_211 rec41 hrec41 rec73 hrec73 _ _ _ _ _ _ _ _ _ h
set_option maxRecDepth 100000 in
set_option maxHeartbeats 4000000 in
theorem l_X12_bestSetting_148 (rec41 : Int32 → Int64 → Int32 → Int32 → Int32 → aSt → Option (Int64 × aSt)) (hrec41 : ∀ (x1 : Int32) (x2 : Int64) (x4 : Int32) (x5 : Int32) (x6 : Int32) (σ : aSt) (o : Int64 × aSt), rec41 x1 x2 x4 x5 x6 σ = some o → AW true m_X12_bestSetting 41 [(0, va_rf (some (57))), (1, Value.int (x1)), (2, Value.long (x2)), (4, Value.int (x4)), (5, Value.int (x5)), (6, Value.int (x6))] [] σ 0 0 (some (.long o.1)) o.2) (rec73 : Int32 → Int64 → Int32 → Int32 → Int32 → Int32 → Int32 → aSt → Option (Int64 × aSt)) (hrec73 : ∀ (x1 : Int32) (x2 : Int64) (x4 : Int32) (x5 : Int32) (x6 : Int32) (x7 : Int32) (x8 : Int32) (σ : aSt) (o : Int64 × aSt), rec73 x1 x2 x4 x5 x6 x7 x8 σ = some o → AW true m_X12_bestSetting 73 [(0, va_rf (some (57))), (1, Value.int (x1)), (2, Value.long (x2)), (4, Value.int (x4)), (5, Value.int (x5)), (6, Value.int (x6)), (7, Value.int (x7)), (8, Value.int (x8))] [] σ 0 0 (some (.long o.1)) o.2) (x1 : Int32) (x2 : Int64) (x4 : Int32) (x5 : Int32) (x6 : Int32) (x7 : Int32) (x8 : Int32) (x9 : Int32) (t0 : Int32) (σ : aSt) (o : Int64 × aSt) (h : f_X12_bestSetting_148 rec41 rec73 x1 x2 x4 x5 x6 x7 x8 x9 t0 σ = some o) : AW true m_X12_bestSetting 148 [(0, va_rf (some (57))), (1, Value.int (x1)), (2, Value.long (x2)), (4, Value.int (x4)), (5, Value.int (x5)), (6, Value.int (x6)), (7, Value.int (x7)), (8, Value.int (x8)), (9, Value.int (x9))] [.int (t0)] σ 0 0 (some (.long o.1)) o.2 := by
  unfold f_X12_bestSetting_148 at h
  refine w_istore dX12_bestSetting_148 (by decide) rfl ?_
  refine w_iload 0 dX12_bestSetting_150 rfl ?_
  refine w_if_eq 211 dX12_bestSetting_152 (by decide) (fun c8 => ?_) (fun c8 => ?_)
  · replace h := e_t c8 h
    refine w_sub [1, 2, 3, 4, 5, 6, 7, 8] rfl ?_
    exact l_X12_bestSetting_211 rec41 hrec41 rec73 hrec73 _ _ _ _ _ _ _ _ _ h
  · replace h := e_f c8 h
    refine w_aload_n 1 ((some (57))) dX12_bestSetting_155 rfl rfl ?_
    refine w_iload 7 dX12_bestSetting_156 rfl ?_
    refine w_iload 9 dX12_bestSetting_158 rfl ?_
    replace h := e_bind h; obtain ⟨q9, e10, h⟩ := h
    refine w_callV1 (M2 := m_X12_costOf) (av := [.int (x7), .int (x9)]) (ci := 12) (c_X12_costOf _ _ _ _ e10) dX12_bestSetting_160 kd_X12_costOf wd_41_22 wd_41_23 wd_42_0 rfl rfl ⟨rfl, Or.inr ⟨rfl, by decide⟩⟩ rfl ⟨Nat.le_of_ble_eq_true rfl, Nat.le_of_ble_eq_true rfl, Nat.le_of_ble_eq_true rfl, Nat.le_of_ble_eq_true rfl⟩ (Nat.le_of_ble_eq_true rfl) ?_
    refine w_lstore dX12_bestSetting_163 (by decide) rfl ?_
    refine w_lload 0 dX12_bestSetting_165 rfl ?_
    refine w_lload_n 4 dX12_bestSetting_167 rfl rfl ?_
    refine w_lcmp dX12_bestSetting_168 ?_
    refine w_if_lt 200 dX12_bestSetting_169 (by decide) (fun c11 => ?_) (fun c11 => ?_)
    · replace h := e_t c11 h
      refine w_sub [2, 3, 7, 8, 9, 10, 0] rfl ?_
      exact l_X12_bestSetting_200 rec41 hrec41 rec73 hrec73 _ _ _ _ _ _ _ _ h
    · replace h := e_f c11 h
      refine w_lload 0 dX12_bestSetting_172 rfl ?_
      refine w_lload_n 4 dX12_bestSetting_174 rfl rfl ?_
      refine w_lcmp dX12_bestSetting_175 ?_
      refine w_if_ne 211 dX12_bestSetting_176 (by decide) (fun c12 => ?_) (fun c12 => ?_)
      · replace h := e_f c12 h
        refine w_sub [2, 3, 4, 5, 6, 7, 8, 9] rfl ?_
        exact l_X12_bestSetting_211 rec41 hrec41 rec73 hrec73 _ _ _ _ _ _ _ _ _ h
      · replace h := e_t c12 h
        refine w_iload 8 dX12_bestSetting_179 rfl ?_
        refine w_iload 5 dX12_bestSetting_181 rfl ?_
        refine w_icmp_lt 200 dX12_bestSetting_183 (by decide) (fun c13 => ?_) (fun c13 => ?_)
        · replace h := e_t c13 h
          refine w_sub [2, 3, 7, 8, 9, 10, 0] rfl ?_
          exact l_X12_bestSetting_200 rec41 hrec41 rec73 hrec73 _ _ _ _ _ _ _ _ h
        · replace h := e_f c13 h
          refine w_iload 8 dX12_bestSetting_186 rfl ?_
          refine w_iload 5 dX12_bestSetting_188 rfl ?_
          refine w_icmp_ne 211 dX12_bestSetting_190 (by decide) (fun c14 => ?_) (fun c14 => ?_)
          · replace h := e_f c14 h
            refine w_sub [2, 3, 4, 5, 6, 7, 8, 9] rfl ?_
            exact l_X12_bestSetting_211 rec41 hrec41 rec73 hrec73 _ _ _ _ _ _ _ _ _ h
          · replace h := e_t c14 h
            refine w_iload 10 dX12_bestSetting_193 rfl ?_
            refine w_iload 6 dX12_bestSetting_195 rfl ?_
            refine w_icmp_ge 211 dX12_bestSetting_197 (by decide) (fun c15 => ?_) (fun c15 => ?_)
            · replace h := e_t c15 h
              refine w_sub [2, 3, 4, 5, 6, 7, 8, 9] rfl ?_
              exact l_X12_bestSetting_211 rec41 hrec41 rec73 hrec73 _ _ _ _ _ _ _ _ _ h
            · replace h := e_f c15 h
              refine w_sub [2, 3, 7, 8, 9, 10, 0] rfl ?_
              exact l_X12_bestSetting_200 rec41 hrec41 rec73 hrec73 _ _ _ _ _ _ _ _ h
set_option maxRecDepth 100000 in
set_option maxHeartbeats 4000000 in
theorem l_X12_bestSetting_143 (rec41 : Int32 → Int64 → Int32 → Int32 → Int32 → aSt → Option (Int64 × aSt)) (hrec41 : ∀ (x1 : Int32) (x2 : Int64) (x4 : Int32) (x5 : Int32) (x6 : Int32) (σ : aSt) (o : Int64 × aSt), rec41 x1 x2 x4 x5 x6 σ = some o → AW true m_X12_bestSetting 41 [(0, va_rf (some (57))), (1, Value.int (x1)), (2, Value.long (x2)), (4, Value.int (x4)), (5, Value.int (x5)), (6, Value.int (x6))] [] σ 0 0 (some (.long o.1)) o.2) (rec73 : Int32 → Int64 → Int32 → Int32 → Int32 → Int32 → Int32 → aSt → Option (Int64 × aSt)) (hrec73 : ∀ (x1 : Int32) (x2 : Int64) (x4 : Int32) (x5 : Int32) (x6 : Int32) (x7 : Int32) (x8 : Int32) (σ : aSt) (o : Int64 × aSt), rec73 x1 x2 x4 x5 x6 x7 x8 σ = some o → AW true m_X12_bestSetting 73 [(0, va_rf (some (57))), (1, Value.int (x1)), (2, Value.long (x2)), (4, Value.int (x4)), (5, Value.int (x5)), (6, Value.int (x6)), (7, Value.int (x7)), (8, Value.int (x8))] [] σ 0 0 (some (.long o.1)) o.2) (x1 : Int32) (x2 : Int64) (x4 : Int32) (x5 : Int32) (x6 : Int32) (x7 : Int32) (x8 : Int32) (x9 : Int32) (σ : aSt) (o : Int64 × aSt) (h : f_X12_bestSetting_143 rec41 rec73 x1 x2 x4 x5 x6 x7 x8 x9 σ = some o) : AW true m_X12_bestSetting 143 [(0, va_rf (some (57))), (1, Value.int (x1)), (2, Value.long (x2)), (4, Value.int (x4)), (5, Value.int (x5)), (6, Value.int (x6)), (7, Value.int (x7)), (8, Value.int (x8)), (9, Value.int (x9))] [] σ 0 0 (some (.long o.1)) o.2 := by
  unfold f_X12_bestSetting_143 at h
  refine w_iconst (v := 1) dX12_bestSetting_143 (by decide) ?_
  refine w_goto 148 dX12_bestSetting_144 (by decide) ?_
  exact l_X12_bestSetting_148 rec41 hrec41 rec73 hrec73 _ _ _ _ _ _ _ _ _ _ _ h
set_option maxRecDepth 100000 in
set_option maxHeartbeats 4000000 in
theorem l_X12_bestSetting_147 (rec41 : Int32 → Int64 → Int32 → Int32 → Int32 → aSt → Option (Int64 × aSt)) (hrec41 : ∀ (x1 : Int32) (x2 : Int64) (x4 : Int32) (x5 : Int32) (x6 : Int32) (σ : aSt) (o : Int64 × aSt), rec41 x1 x2 x4 x5 x6 σ = some o → AW true m_X12_bestSetting 41 [(0, va_rf (some (57))), (1, Value.int (x1)), (2, Value.long (x2)), (4, Value.int (x4)), (5, Value.int (x5)), (6, Value.int (x6))] [] σ 0 0 (some (.long o.1)) o.2) (rec73 : Int32 → Int64 → Int32 → Int32 → Int32 → Int32 → Int32 → aSt → Option (Int64 × aSt)) (hrec73 : ∀ (x1 : Int32) (x2 : Int64) (x4 : Int32) (x5 : Int32) (x6 : Int32) (x7 : Int32) (x8 : Int32) (σ : aSt) (o : Int64 × aSt), rec73 x1 x2 x4 x5 x6 x7 x8 σ = some o → AW true m_X12_bestSetting 73 [(0, va_rf (some (57))), (1, Value.int (x1)), (2, Value.long (x2)), (4, Value.int (x4)), (5, Value.int (x5)), (6, Value.int (x6)), (7, Value.int (x7)), (8, Value.int (x8))] [] σ 0 0 (some (.long o.1)) o.2) (x1 : Int32) (x2 : Int64) (x4 : Int32) (x5 : Int32) (x6 : Int32) (x7 : Int32) (x8 : Int32) (x9 : Int32) (σ : aSt) (o : Int64 × aSt) (h : f_X12_bestSetting_147 rec41 rec73 x1 x2 x4 x5 x6 x7 x8 x9 σ = some o) : AW true m_X12_bestSetting 147 [(0, va_rf (some (57))), (1, Value.int (x1)), (2, Value.long (x2)), (4, Value.int (x4)), (5, Value.int (x5)), (6, Value.int (x6)), (7, Value.int (x7)), (8, Value.int (x8)), (9, Value.int (x9))] [] σ 0 0 (some (.long o.1)) o.2 := by
  unfold f_X12_bestSetting_147 at h
  refine w_iconst (v := 0) dX12_bestSetting_147 (by decide) ?_
  exact l_X12_bestSetting_148 rec41 hrec41 rec73 hrec73 _ _ _ _ _ _ _ _ _ _ _ h
set_option maxRecDepth 100000 in
set_option maxHeartbeats 4000000 in
theorem l_X12_bestSetting_126 (rec41 : Int32 → Int64 → Int32 → Int32 → Int32 → aSt → Option (Int64 × aSt)) (hrec41 : ∀ (x1 : Int32) (x2 : Int64) (x4 : Int32) (x5 : Int32) (x6 : Int32) (σ : aSt) (o : Int64 × aSt), rec41 x1 x2 x4 x5 x6 σ = some o → AW true m_X12_bestSetting 41 [(0, va_rf (some (57))), (1, Value.int (x1)), (2, Value.long (x2)), (4, Value.int (x4)), (5, Value.int (x5)), (6, Value.int (x6))] [] σ 0 0 (some (.long o.1)) o.2) (rec73 : Int32 → Int64 → Int32 → Int32 → Int32 → Int32 → Int32 → aSt → Option (Int64 × aSt)) (hrec73 : ∀ (x1 : Int32) (x2 : Int64) (x4 : Int32) (x5 : Int32) (x6 : Int32) (x7 : Int32) (x8 : Int32) (σ : aSt) (o : Int64 × aSt), rec73 x1 x2 x4 x5 x6 x7 x8 σ = some o → AW true m_X12_bestSetting 73 [(0, va_rf (some (57))), (1, Value.int (x1)), (2, Value.long (x2)), (4, Value.int (x4)), (5, Value.int (x5)), (6, Value.int (x6)), (7, Value.int (x7)), (8, Value.int (x8))] [] σ 0 0 (some (.long o.1)) o.2) (x1 : Int32) (x2 : Int64) (x4 : Int32) (x5 : Int32) (x6 : Int32) (x7 : Int32) (x8 : Int32) (x9 : Int32) (σ : aSt) (o : Int64 × aSt) (h : f_X12_bestSetting_126 rec41 rec73 x1 x2 x4 x5 x6 x7 x8 x9 σ = some o) : AW true m_X12_bestSetting 126 [(0, va_rf (some (57))), (1, Value.int (x1)), (2, Value.long (x2)), (4, Value.int (x4)), (5, Value.int (x5)), (6, Value.int (x6)), (7, Value.int (x7)), (8, Value.int (x8)), (9, Value.int (x9))] [] σ 0 0 (some (.long o.1)) o.2 := by
  unfold f_X12_bestSetting_126 at h
  refine w_iload 7 dX12_bestSetting_126 rfl ?_
  refine w_if_lt 143 dX12_bestSetting_128 (by decide) (fun c16 => ?_) (fun c16 => ?_)
  · replace h := e_t c16 h
    exact l_X12_bestSetting_143 rec41 hrec41 rec73 hrec73 _ _ _ _ _ _ _ _ _ _ h
  · replace h := e_f c16 h
    refine w_aload_n 0 ((some (57))) dX12_bestSetting_131 rfl rfl ?_
    refine w_get (v := va_rf (some 67)) dX12_bestSetting_132 fl_RX12_37 ⟨rfl, Or.inr ⟨rfl, by decide⟩⟩ (aFv_k rfl) ?_
    refine w_iload 7 dX12_bestSetting_135 rfl ?_
    replace h := e_grd h; obtain ⟨b17, h⟩ := h
    refine w_iaload dX12_bestSetting_137 ⟨rfl, Or.inr ⟨rfl, by decide⟩⟩ b17 ?_
    refine w_ldc (v := (-1000000)) dX12_bestSetting_138 wd_15_11 ?_
    refine w_icmp_eq 147 dX12_bestSetting_140 (by decide) (fun c18 => ?_) (fun c18 => ?_)
    · replace h := e_t c18 h
      exact l_X12_bestSetting_147 rec41 hrec41 rec73 hrec73 _ _ _ _ _ _ _ _ _ _ h
    · replace h := e_f c18 h
      exact l_X12_bestSetting_143 rec41 hrec41 rec73 hrec73 _ _ _ _ _ _ _ _ _ _ h
set_option maxRecDepth 100000 in
set_option maxHeartbeats 4000000 in
theorem l_X12_bestSetting_100 (rec41 : Int32 → Int64 → Int32 → Int32 → Int32 → aSt → Option (Int64 × aSt)) (hrec41 : ∀ (x1 : Int32) (x2 : Int64) (x4 : Int32) (x5 : Int32) (x6 : Int32) (σ : aSt) (o : Int64 × aSt), rec41 x1 x2 x4 x5 x6 σ = some o → AW true m_X12_bestSetting 41 [(0, va_rf (some (57))), (1, Value.int (x1)), (2, Value.long (x2)), (4, Value.int (x4)), (5, Value.int (x5)), (6, Value.int (x6))] [] σ 0 0 (some (.long o.1)) o.2) (rec73 : Int32 → Int64 → Int32 → Int32 → Int32 → Int32 → Int32 → aSt → Option (Int64 × aSt)) (hrec73 : ∀ (x1 : Int32) (x2 : Int64) (x4 : Int32) (x5 : Int32) (x6 : Int32) (x7 : Int32) (x8 : Int32) (σ : aSt) (o : Int64 × aSt), rec73 x1 x2 x4 x5 x6 x7 x8 σ = some o → AW true m_X12_bestSetting 73 [(0, va_rf (some (57))), (1, Value.int (x1)), (2, Value.long (x2)), (4, Value.int (x4)), (5, Value.int (x5)), (6, Value.int (x6)), (7, Value.int (x7)), (8, Value.int (x8))] [] σ 0 0 (some (.long o.1)) o.2) (x1 : Int32) (x2 : Int64) (x4 : Int32) (x5 : Int32) (x6 : Int32) (x7 : Int32) (x8 : Int32) (t0 : Int32) (σ : aSt) (o : Int64 × aSt) (h : f_X12_bestSetting_100 rec41 rec73 x1 x2 x4 x5 x6 x7 x8 t0 σ = some o) : AW true m_X12_bestSetting 100 [(0, va_rf (some (57))), (1, Value.int (x1)), (2, Value.long (x2)), (4, Value.int (x4)), (5, Value.int (x5)), (6, Value.int (x6)), (7, Value.int (x7)), (8, Value.int (x8))] [.int (t0)] σ 0 0 (some (.long o.1)) o.2 := by
  unfold f_X12_bestSetting_100 at h
  refine w_istore dX12_bestSetting_100 (by decide) rfl ?_
  refine w_iload 7 dX12_bestSetting_102 rfl ?_
  refine w_iload 0 dX12_bestSetting_104 rfl ?_
  refine w_icmp_gt 147 dX12_bestSetting_106 (by decide) (fun c19 => ?_) (fun c19 => ?_)
  · replace h := e_t c19 h
    refine w_sub [1, 2, 3, 4, 5, 6, 7, 8, 0] rfl ?_
    exact l_X12_bestSetting_147 rec41 hrec41 rec73 hrec73 _ _ _ _ _ _ _ _ _ _ h
  · replace h := e_f c19 h
    refine w_iload 6 dX12_bestSetting_109 rfl ?_
    refine w_if_lt 126 dX12_bestSetting_111 (by decide) (fun c20 => ?_) (fun c20 => ?_)
    · replace h := e_t c20 h
      refine w_sub [1, 2, 3, 4, 5, 6, 7, 8, 0] rfl ?_
      exact l_X12_bestSetting_126 rec41 hrec41 rec73 hrec73 _ _ _ _ _ _ _ _ _ _ h
    · replace h := e_f c20 h
      refine w_aload_n 1 ((some (57))) dX12_bestSetting_114 rfl rfl ?_
      refine w_get (v := va_rf (some 67)) dX12_bestSetting_115 fl_RX12_37 ⟨rfl, Or.inr ⟨rfl, by decide⟩⟩ (aFv_k rfl) ?_
      refine w_iload 6 dX12_bestSetting_118 rfl ?_
      replace h := e_grd h; obtain ⟨b21, h⟩ := h
      refine w_iaload dX12_bestSetting_120 ⟨rfl, Or.inr ⟨rfl, by decide⟩⟩ b21 ?_
      refine w_ldc (v := (-1000000)) dX12_bestSetting_121 wd_15_11 ?_
      refine w_icmp_eq 147 dX12_bestSetting_123 (by decide) (fun c22 => ?_) (fun c22 => ?_)
      · replace h := e_t c22 h
        refine w_sub [1, 2, 3, 4, 5, 6, 7, 8, 0] rfl ?_
        exact l_X12_bestSetting_147 rec41 hrec41 rec73 hrec73 _ _ _ _ _ _ _ _ _ _ h
      · replace h := e_f c22 h
        refine w_sub [1, 2, 3, 4, 5, 6, 7, 8, 0] rfl ?_
        exact l_X12_bestSetting_126 rec41 hrec41 rec73 hrec73 _ _ _ _ _ _ _ _ _ _ h
set_option maxRecDepth 100000 in
set_option maxHeartbeats 4000000 in
theorem l_X12_bestSetting_73_b (rec41 : Int32 → Int64 → Int32 → Int32 → Int32 → aSt → Option (Int64 × aSt)) (hrec41 : ∀ (x1 : Int32) (x2 : Int64) (x4 : Int32) (x5 : Int32) (x6 : Int32) (σ : aSt) (o : Int64 × aSt), rec41 x1 x2 x4 x5 x6 σ = some o → AW true m_X12_bestSetting 41 [(0, va_rf (some (57))), (1, Value.int (x1)), (2, Value.long (x2)), (4, Value.int (x4)), (5, Value.int (x5)), (6, Value.int (x6))] [] σ 0 0 (some (.long o.1)) o.2) (rec73 : Int32 → Int64 → Int32 → Int32 → Int32 → Int32 → Int32 → aSt → Option (Int64 × aSt)) (hrec73 : ∀ (x1 : Int32) (x2 : Int64) (x4 : Int32) (x5 : Int32) (x6 : Int32) (x7 : Int32) (x8 : Int32) (σ : aSt) (o : Int64 × aSt), rec73 x1 x2 x4 x5 x6 x7 x8 σ = some o → AW true m_X12_bestSetting 73 [(0, va_rf (some (57))), (1, Value.int (x1)), (2, Value.long (x2)), (4, Value.int (x4)), (5, Value.int (x5)), (6, Value.int (x6)), (7, Value.int (x7)), (8, Value.int (x8))] [] σ 0 0 (some (.long o.1)) o.2) (x1 : Int32) (x2 : Int64) (x4 : Int32) (x5 : Int32) (x6 : Int32) (x7 : Int32) (x8 : Int32) (σ : aSt) (o : Int64 × aSt) (h : f_X12_bestSetting_73_b rec41 rec73 x1 x2 x4 x5 x6 x7 x8 σ = some o) : AW true m_X12_bestSetting 73 [(0, va_rf (some (57))), (1, Value.int (x1)), (2, Value.long (x2)), (4, Value.int (x4)), (5, Value.int (x5)), (6, Value.int (x6)), (7, Value.int (x7)), (8, Value.int (x8))] [] σ 0 0 (some (.long o.1)) o.2 := by
  unfold f_X12_bestSetting_73_b at h
  refine w_iload 7 dX12_bestSetting_73 rfl ?_
  refine w_aload_n 0 ((some (57))) dX12_bestSetting_75 rfl rfl ?_
  refine w_get dX12_bestSetting_76 fl_RX12_127 ⟨rfl, Or.inr ⟨rfl, by decide⟩⟩ (aFv_i rfl) ?_
  refine w_icmp_ge 217 dX12_bestSetting_79 (by decide) (fun c23 => ?_) (fun c23 => ?_)
  · replace h := e_t c23 h
    refine w_iinc (q := 5) (v := x6 + 1) dX12_bestSetting_217 rfl rfl (by decide) rfl ?_
    refine w_goto 41 dX12_bestSetting_220 (by decide) ?_
    refine w_sub [1, 2, 3, 4, 5, 0] rfl ?_
    exact hrec41 _ _ _ _ _ _ _ h
  · replace h := e_f c23 h
    refine w_iload 7 dX12_bestSetting_82 rfl ?_
    refine w_if_ge 91 dX12_bestSetting_84 (by decide) (fun c24 => ?_) (fun c24 => ?_)
    · replace h := e_t c24 h
      refine w_aload_n 0 ((some (57))) dX12_bestSetting_91 rfl rfl ?_
      refine w_get (v := va_rf (some 78)) dX12_bestSetting_92 fl_RX12_83 ⟨rfl, Or.inr ⟨rfl, by decide⟩⟩ (aFv_k rfl) ?_
      refine w_iload 7 dX12_bestSetting_95 rfl ?_
      replace h := e_grd h; obtain ⟨b25, h⟩ := h
      refine w_iaload dX12_bestSetting_97 ⟨rfl, Or.inr ⟨rfl, by decide⟩⟩ b25 ?_
      refine w_iconst (v := 1) dX12_bestSetting_98 (by decide) ?_
      refine w_iadd dX12_bestSetting_99 ?_
      exact l_X12_bestSetting_100 rec41 hrec41 rec73 hrec73 _ _ _ _ _ _ _ _ _ _ h
    · replace h := e_f c24 h
      refine w_iconst (v := 0) dX12_bestSetting_87 (by decide) ?_
      refine w_goto 100 dX12_bestSetting_88 (by decide) ?_
      exact l_X12_bestSetting_100 rec41 hrec41 rec73 hrec73 _ _ _ _ _ _ _ _ _ _ h
theorem l_X12_bestSetting_73 (rec41 : Int32 → Int64 → Int32 → Int32 → Int32 → aSt → Option (Int64 × aSt)) (hrec41 : ∀ (x1 : Int32) (x2 : Int64) (x4 : Int32) (x5 : Int32) (x6 : Int32) (σ : aSt) (o : Int64 × aSt), rec41 x1 x2 x4 x5 x6 σ = some o → AW true m_X12_bestSetting 41 [(0, va_rf (some (57))), (1, Value.int (x1)), (2, Value.long (x2)), (4, Value.int (x4)), (5, Value.int (x5)), (6, Value.int (x6))] [] σ 0 0 (some (.long o.1)) o.2) : ∀ (n : Nat) (x1 : Int32) (x2 : Int64) (x4 : Int32) (x5 : Int32) (x6 : Int32) (x7 : Int32) (x8 : Int32) (σ : aSt) (o : Int64 × aSt), f_X12_bestSetting_73 rec41 n x1 x2 x4 x5 x6 x7 x8 σ = some o → AW true m_X12_bestSetting 73 [(0, va_rf (some (57))), (1, Value.int (x1)), (2, Value.long (x2)), (4, Value.int (x4)), (5, Value.int (x5)), (6, Value.int (x6)), (7, Value.int (x7)), (8, Value.int (x8))] [] σ 0 0 (some (.long o.1)) o.2
  | 0 => fun x1 x2 x4 x5 x6 x7 x8 σ o h => by cases h
  | n + 1 => fun x1 x2 x4 x5 x6 x7 x8 σ o h => l_X12_bestSetting_73_b rec41 hrec41 (f_X12_bestSetting_73 rec41 n) (l_X12_bestSetting_73 rec41 hrec41 n) x1 x2 x4 x5 x6 x7 x8 σ o h
set_option maxRecDepth 100000 in
set_option maxHeartbeats 4000000 in
theorem l_X12_bestSetting_68 (rec41 : Int32 → Int64 → Int32 → Int32 → Int32 → aSt → Option (Int64 × aSt)) (hrec41 : ∀ (x1 : Int32) (x2 : Int64) (x4 : Int32) (x5 : Int32) (x6 : Int32) (σ : aSt) (o : Int64 × aSt), rec41 x1 x2 x4 x5 x6 σ = some o → AW true m_X12_bestSetting 41 [(0, va_rf (some (57))), (1, Value.int (x1)), (2, Value.long (x2)), (4, Value.int (x4)), (5, Value.int (x5)), (6, Value.int (x6))] [] σ 0 0 (some (.long o.1)) o.2) (x1 : Int32) (x2 : Int64) (x4 : Int32) (x5 : Int32) (x6 : Int32) (t0 : Int32) (σ : aSt) (o : Int64 × aSt) (h : f_X12_bestSetting_68 rec41 x1 x2 x4 x5 x6 t0 σ = some o) : AW true m_X12_bestSetting 68 [(0, va_rf (some (57))), (1, Value.int (x1)), (2, Value.long (x2)), (4, Value.int (x4)), (5, Value.int (x5)), (6, Value.int (x6))] [.int (t0)] σ 0 0 (some (.long o.1)) o.2 := by
  unfold f_X12_bestSetting_68 at h
  refine w_istore dX12_bestSetting_68 (by decide) rfl ?_
  refine w_iconst (v := (-1)) dX12_bestSetting_70 (by decide) ?_
  refine w_istore dX12_bestSetting_71 (by decide) rfl ?_
  refine w_sub [2, 3, 4, 5, 6, 7, 1, 0] rfl ?_
  exact l_X12_bestSetting_73 rec41 hrec41 aN _ _ _ _ _ _ _ _ _ h
set_option maxRecDepth 100000 in
set_option maxHeartbeats 4000000 in
theorem l_X12_bestSetting_245  (t0 : Int64) (σ : aSt) (o : Int64 × aSt) (h : f_X12_bestSetting_245  t0 σ = some o) : AW true m_X12_bestSetting 245 [] [.long (t0)] σ 0 0 (some (.long o.1)) o.2 := by
  unfold f_X12_bestSetting_245 at h
  obtain rfl := Option.some.inj h
  exact w_lreturn dX12_bestSetting_245 rfl (Nat.le_of_ble_eq_true rfl) (Nat.le_of_ble_eq_true rfl)
set_option maxRecDepth 100000 in
set_option maxHeartbeats 4000000 in
theorem l_X12_bestSetting_41_b (rec41 : Int32 → Int64 → Int32 → Int32 → Int32 → aSt → Option (Int64 × aSt)) (hrec41 : ∀ (x1 : Int32) (x2 : Int64) (x4 : Int32) (x5 : Int32) (x6 : Int32) (σ : aSt) (o : Int64 × aSt), rec41 x1 x2 x4 x5 x6 σ = some o → AW true m_X12_bestSetting 41 [(0, va_rf (some (57))), (1, Value.int (x1)), (2, Value.long (x2)), (4, Value.int (x4)), (5, Value.int (x5)), (6, Value.int (x6))] [] σ 0 0 (some (.long o.1)) o.2) (x1 : Int32) (x2 : Int64) (x4 : Int32) (x5 : Int32) (x6 : Int32) (σ : aSt) (o : Int64 × aSt) (h : f_X12_bestSetting_41_b rec41 x1 x2 x4 x5 x6 σ = some o) : AW true m_X12_bestSetting 41 [(0, va_rf (some (57))), (1, Value.int (x1)), (2, Value.long (x2)), (4, Value.int (x4)), (5, Value.int (x5)), (6, Value.int (x6))] [] σ 0 0 (some (.long o.1)) o.2 := by
  unfold f_X12_bestSetting_41_b at h
  refine w_iload 5 dX12_bestSetting_41 rfl ?_
  refine w_aload_n 0 ((some (57))) dX12_bestSetting_43 rfl rfl ?_
  refine w_get dX12_bestSetting_44 fl_RX12_127 ⟨rfl, Or.inr ⟨rfl, by decide⟩⟩ (aFv_i rfl) ?_
  refine w_icmp_ge 223 dX12_bestSetting_47 (by decide) (fun c26 => ?_) (fun c26 => ?_)
  · replace h := e_t c26 h
    refine w_iload_n 1 dX12_bestSetting_223 rfl rfl ?_
    refine w_if_ne 233 dX12_bestSetting_224 (by decide) (fun c27 => ?_) (fun c27 => ?_)
    · replace h := e_f c27 h
      refine w_iload_n 1 dX12_bestSetting_233 rfl rfl ?_
      refine w_iconst (v := 1) dX12_bestSetting_234 (by decide) ?_
      refine w_icmp_ne 244 dX12_bestSetting_235 (by decide) (fun c28 => ?_) (fun c28 => ?_)
      · replace h := e_f c28 h
        refine w_lload_n 2 dX12_bestSetting_244 rfl rfl ?_
        refine w_sub [] rfl ?_
        exact l_X12_bestSetting_245 _ _ _ h
      · replace h := e_t c28 h
        refine w_iload 4 dX12_bestSetting_238 rfl ?_
        refine w_i2l dX12_bestSetting_240 ?_
        refine w_goto 245 dX12_bestSetting_241 (by decide) ?_
        refine w_sub [] rfl ?_
        exact l_X12_bestSetting_245 _ _ _ h
    · replace h := e_t c27 h
      refine w_iload 3 dX12_bestSetting_227 rfl ?_
      refine w_i2l dX12_bestSetting_229 ?_
      refine w_goto 245 dX12_bestSetting_230 (by decide) ?_
      refine w_sub [] rfl ?_
      exact l_X12_bestSetting_245 _ _ _ h
  · replace h := e_f c26 h
    refine w_iload 5 dX12_bestSetting_50 rfl ?_
    refine w_if_ge 59 dX12_bestSetting_52 (by decide) (fun c29 => ?_) (fun c29 => ?_)
    · replace h := e_t c29 h
      refine w_aload_n 0 ((some (57))) dX12_bestSetting_59 rfl rfl ?_
      refine w_get (v := va_rf (some 78)) dX12_bestSetting_60 fl_RX12_83 ⟨rfl, Or.inr ⟨rfl, by decide⟩⟩ (aFv_k rfl) ?_
      refine w_iload 5 dX12_bestSetting_63 rfl ?_
      replace h := e_grd h; obtain ⟨b30, h⟩ := h
      refine w_iaload dX12_bestSetting_65 ⟨rfl, Or.inr ⟨rfl, by decide⟩⟩ b30 ?_
      refine w_iconst (v := 1) dX12_bestSetting_66 (by decide) ?_
      refine w_iadd dX12_bestSetting_67 ?_
      exact l_X12_bestSetting_68 rec41 hrec41 _ _ _ _ _ _ _ _ h
    · replace h := e_f c29 h
      refine w_iconst (v := 0) dX12_bestSetting_55 (by decide) ?_
      refine w_goto 68 dX12_bestSetting_56 (by decide) ?_
      exact l_X12_bestSetting_68 rec41 hrec41 _ _ _ _ _ _ _ _ h
theorem l_X12_bestSetting_41  : ∀ (n : Nat) (x1 : Int32) (x2 : Int64) (x4 : Int32) (x5 : Int32) (x6 : Int32) (σ : aSt) (o : Int64 × aSt), f_X12_bestSetting_41  n x1 x2 x4 x5 x6 σ = some o → AW true m_X12_bestSetting 41 [(0, va_rf (some (57))), (1, Value.int (x1)), (2, Value.long (x2)), (4, Value.int (x4)), (5, Value.int (x5)), (6, Value.int (x6))] [] σ 0 0 (some (.long o.1)) o.2
  | 0 => fun x1 x2 x4 x5 x6 σ o h => by cases h
  | n + 1 => fun x1 x2 x4 x5 x6 σ o h => l_X12_bestSetting_41_b (f_X12_bestSetting_41  n) (l_X12_bestSetting_41  n) x1 x2 x4 x5 x6 σ o h
set_option maxRecDepth 100000 in
set_option maxHeartbeats 4000000 in
theorem c_X12_bestSetting (p1 : Int32) (σ : aSt) (o : Int64 × aSt) (h : f_X12_bestSetting p1 σ = some o) : AM true m_X12_bestSetting [va_rf (some (57)), .int (p1)] σ (some (.long o.1)) o.2 := by
  refine AM_of2 (lv := [(0, va_rf (some (57))), (1, Value.int (p1))]) (by decide +kernel) rfl (Nat.le_of_ble_eq_true rfl) ?_
  unfold f_X12_bestSetting at h
  refine w_aload_n 0 ((some (57))) dX12_bestSetting_0 rfl rfl ?_
  refine w_iconst (v := 0) dX12_bestSetting_1 (by decide) ?_
  refine w_putI dX12_bestSetting_2 fl_RX12_102 (Or.inl rfl) rfl ⟨rfl, Or.inr ⟨rfl, by decide⟩⟩ ?_
  refine w_iload_n 1 dX12_bestSetting_5 rfl rfl ?_
  refine w_i2l dX12_bestSetting_6 ?_
  refine w_lconst (v := 0) dX12_bestSetting_7 (by decide) ?_
  refine w_ldc2 (v := 2) dX12_bestSetting_8 wd_10_20 ?_
  replace h := e_bind h; obtain ⟨q1, e2, h⟩ := h
  refine w_callS1 (M2 := m_X12_in) (av := [.long (p1.toInt64), .long (0), .long (2)]) (c_X12_in _ _ _ _ _ e2) dX12_bestSetting_11 kd_X12_in wd_11_3 wd_11_4 rfl rfl ⟨Nat.le_of_ble_eq_true rfl, Nat.le_of_ble_eq_true rfl, Nat.le_of_ble_eq_true rfl, Nat.le_of_ble_eq_true rfl⟩ (Nat.le_of_ble_eq_true rfl) ?_
  refine w_if_ne 21 dX12_bestSetting_14 (by decide) (fun c3 => ?_) (fun c3 => ?_)
  · replace h := e_f c3 h
    refine w_aload_n 0 ((some (57))) dX12_bestSetting_21 rfl rfl ?_
    replace h := e_bind h; obtain ⟨q4, e5, h⟩ := h
    refine w_callV0 (M2 := m_X12_findScores) (av := []) (ci := 12) (c_X12_findScores  _ _ e5) dX12_bestSetting_22 kd_X12_findScores wd_41_18 wd_41_19 wd_41_20 rfl rfl ⟨rfl, Or.inr ⟨rfl, by decide⟩⟩ rfl ⟨Nat.le_of_ble_eq_true rfl, Nat.le_of_ble_eq_true rfl, Nat.le_of_ble_eq_true rfl, Nat.le_of_ble_eq_true rfl⟩ (Nat.le_of_ble_eq_true rfl) ?_
    refine w_aload_n 0 ((some (57))) dX12_bestSetting_25 rfl rfl ?_
    refine w_iconst (v := 0) dX12_bestSetting_26 (by decide) ?_
    refine w_iconst (v := 0) dX12_bestSetting_27 (by decide) ?_
    replace h := e_bind h; obtain ⟨q6, e7, h⟩ := h
    refine w_callV1 (M2 := m_X12_costOf) (av := [.int (0), .int (0)]) (ci := 12) (c_X12_costOf _ _ _ _ e7) dX12_bestSetting_28 kd_X12_costOf wd_41_22 wd_41_23 wd_42_0 rfl rfl ⟨rfl, Or.inr ⟨rfl, by decide⟩⟩ rfl ⟨Nat.le_of_ble_eq_true rfl, Nat.le_of_ble_eq_true rfl, Nat.le_of_ble_eq_true rfl, Nat.le_of_ble_eq_true rfl⟩ (Nat.le_of_ble_eq_true rfl) ?_
    refine w_lstore_n dX12_bestSetting_31 rfl (by decide) rfl ?_
    refine w_iconst (v := 0) dX12_bestSetting_32 (by decide) ?_
    refine w_istore dX12_bestSetting_33 (by decide) rfl ?_
    refine w_iconst (v := 0) dX12_bestSetting_35 (by decide) ?_
    refine w_istore dX12_bestSetting_36 (by decide) rfl ?_
    refine w_iconst (v := (-1)) dX12_bestSetting_38 (by decide) ?_
    refine w_istore dX12_bestSetting_39 (by decide) rfl ?_
    refine w_sub [4, 5, 3, 2, 1, 0] rfl ?_
    exact l_X12_bestSetting_41 aN _ _ _ _ _ _ _ h
  · replace h := e_t c3 h
    refine w_ldc2 (v := (-1000001)) dX12_bestSetting_17 wd_41_17 ?_
    obtain rfl := Option.some.inj h
    exact w_lreturn dX12_bestSetting_20 rfl (Nat.le_of_ble_eq_true rfl) (Nat.le_of_ble_eq_true rfl)
theorem dX12_findHolds_0 : decode cX12_findHolds 0 = .ok (.iconst 0, 1) := by decide +kernel
theorem dX12_findHolds_1 : decode cX12_findHolds 1 = .ok (.istore_n 1, 1) := by decide +kernel
theorem dX12_findHolds_2 : decode cX12_findHolds 2 = .ok (.iload_n 1, 1) := by decide +kernel
theorem dX12_findHolds_3 : decode cX12_findHolds 3 = .ok (.aload_n 0, 1) := by decide +kernel
theorem dX12_findHolds_4 : decode cX12_findHolds 4 = .ok (.getfield 127, 3) := by decide +kernel
theorem dX12_findHolds_7 : decode cX12_findHolds 7 = .ok (.if_icmp .ge 42, 3) := by decide +kernel
theorem dX12_findHolds_10 : decode cX12_findHolds 10 = .ok (.aload_n 0, 1) := by decide +kernel
theorem dX12_findHolds_11 : decode cX12_findHolds 11 = .ok (.getfield 92, 3) := by decide +kernel
theorem dX12_findHolds_14 : decode cX12_findHolds 14 = .ok (.iload_n 1, 1) := by decide +kernel
theorem dX12_findHolds_15 : decode cX12_findHolds 15 = .ok (.aload_n 0, 1) := by decide +kernel
theorem dX12_findHolds_16 : decode cX12_findHolds 16 = .ok (.getfield 37, 3) := by decide +kernel
theorem dX12_findHolds_19 : decode cX12_findHolds 19 = .ok (.iload_n 1, 1) := by decide +kernel
theorem dX12_findHolds_20 : decode cX12_findHolds 20 = .ok (.iaload, 1) := by decide +kernel
theorem dX12_findHolds_21 : decode cX12_findHolds 21 = .ok (.ldc 126, 2) := by decide +kernel
theorem dX12_findHolds_23 : decode cX12_findHolds 23 = .ok (.if_icmp .ne 7, 3) := by decide +kernel
theorem dX12_findHolds_26 : decode cX12_findHolds 26 = .ok (.iconst 0, 1) := by decide +kernel
theorem dX12_findHolds_27 : decode cX12_findHolds 27 = .ok (.goto 15, 3) := by decide +kernel
theorem dX12_findHolds_30 : decode cX12_findHolds 30 = .ok (.aload_n 0, 1) := by decide +kernel
theorem dX12_findHolds_31 : decode cX12_findHolds 31 = .ok (.iload_n 1, 1) := by decide +kernel
theorem dX12_findHolds_32 : decode cX12_findHolds 32 = .ok (.iconst 0, 1) := by decide +kernel
theorem dX12_findHolds_33 : decode cX12_findHolds 33 = .ok (.aload_n 0, 1) := by decide +kernel
theorem dX12_findHolds_34 : decode cX12_findHolds 34 = .ok (.getfield 31, 3) := by decide +kernel
theorem dX12_findHolds_37 : decode cX12_findHolds 37 = .ok (.iload_n 1, 1) := by decide +kernel
theorem dX12_findHolds_38 : decode cX12_findHolds 38 = .ok (.iaload, 1) := by decide +kernel
theorem dX12_findHolds_39 : decode cX12_findHolds 39 = .ok (.invokevirtual 298, 3) := by decide +kernel
theorem dX12_findHolds_42 : decode cX12_findHolds 42 = .ok (.iastore, 1) := by decide +kernel
theorem dX12_findHolds_43 : decode cX12_findHolds 43 = .ok (.iinc 1 1, 3) := by decide +kernel
theorem dX12_findHolds_46 : decode cX12_findHolds 46 = .ok (.goto (-44), 3) := by decide +kernel
theorem dX12_findHolds_49 : decode cX12_findHolds 49 = .ok (.return_, 1) := by decide +kernel
theorem kd_X12_findHolds : aKd m_X12_findHolds 0 := ⟨wd_44_13, wd_1_5, ⟨by decide +kernel, by decide +kernel, by decide +kernel⟩⟩
set_option maxRecDepth 100000 in
set_option maxHeartbeats 4000000 in
theorem l_X12_findHolds_42 (rec2 : Int32 → aSt → Option (Unit × aSt)) (hrec2 : ∀ (x1 : Int32) (σ : aSt) (o : Unit × aSt), rec2 x1 σ = some o → AW true m_X12_findHolds 2 [(0, va_rf (some (57))), (1, Value.int (x1))] [] σ 0 0 none o.2) (x1 : Int32) (t1 : Int32) (t2 : Int32) (σ : aSt) (o : Unit × aSt) (h : f_X12_findHolds_42 rec2 x1 t1 t2 σ = some o) : AW true m_X12_findHolds 42 [(0, va_rf (some (57))), (1, Value.int (x1))] [.int (t2), .int (t1), va_rf (some (81))] σ 0 0 none o.2 := by
  unfold f_X12_findHolds_42 at h
  replace h := e_grd h; obtain ⟨b1, h⟩ := h
  refine w_iastore dX12_findHolds_42 ⟨rfl, Or.inr ⟨rfl, by decide⟩⟩ b1 ?_
  refine w_iinc (q := 1) (v := x1 + 1) dX12_findHolds_43 rfl rfl (by decide) rfl ?_
  refine w_goto 2 dX12_findHolds_46 (by decide) ?_
  refine w_sub [1, 0] rfl ?_
  exact hrec2 _ _ _ h
set_option maxRecDepth 100000 in
set_option maxHeartbeats 4000000 in
theorem l_X12_findHolds_2_b (rec2 : Int32 → aSt → Option (Unit × aSt)) (hrec2 : ∀ (x1 : Int32) (σ : aSt) (o : Unit × aSt), rec2 x1 σ = some o → AW true m_X12_findHolds 2 [(0, va_rf (some (57))), (1, Value.int (x1))] [] σ 0 0 none o.2) (x1 : Int32) (σ : aSt) (o : Unit × aSt) (h : f_X12_findHolds_2_b rec2 x1 σ = some o) : AW true m_X12_findHolds 2 [(0, va_rf (some (57))), (1, Value.int (x1))] [] σ 0 0 none o.2 := by
  unfold f_X12_findHolds_2_b at h
  refine w_iload_n 1 dX12_findHolds_2 rfl rfl ?_
  refine w_aload_n 0 ((some (57))) dX12_findHolds_3 rfl rfl ?_
  refine w_get dX12_findHolds_4 fl_RX12_127 ⟨rfl, Or.inr ⟨rfl, by decide⟩⟩ (aFv_i rfl) ?_
  refine w_icmp_ge 49 dX12_findHolds_7 (by decide) (fun c2 => ?_) (fun c2 => ?_)
  · replace h := e_t c2 h
    obtain rfl := Option.some.inj h
    exact w_vreturn dX12_findHolds_49 rfl (Nat.le_of_ble_eq_true rfl) (Nat.le_of_ble_eq_true rfl)
  · replace h := e_f c2 h
    refine w_aload_n 0 ((some (57))) dX12_findHolds_10 rfl rfl ?_
    refine w_get (v := va_rf (some 81)) dX12_findHolds_11 fl_RX12_92 ⟨rfl, Or.inr ⟨rfl, by decide⟩⟩ (aFv_k rfl) ?_
    refine w_iload_n 1 dX12_findHolds_14 rfl rfl ?_
    refine w_aload_n 0 ((some (57))) dX12_findHolds_15 rfl rfl ?_
    refine w_get (v := va_rf (some 67)) dX12_findHolds_16 fl_RX12_37 ⟨rfl, Or.inr ⟨rfl, by decide⟩⟩ (aFv_k rfl) ?_
    refine w_iload_n 1 dX12_findHolds_19 rfl rfl ?_
    replace h := e_grd h; obtain ⟨b3, h⟩ := h
    refine w_iaload dX12_findHolds_20 ⟨rfl, Or.inr ⟨rfl, by decide⟩⟩ b3 ?_
    refine w_ldc (v := (-1000000)) dX12_findHolds_21 wd_15_11 ?_
    refine w_icmp_ne 30 dX12_findHolds_23 (by decide) (fun c4 => ?_) (fun c4 => ?_)
    · replace h := e_f c4 h
      refine w_aload_n 0 ((some (57))) dX12_findHolds_30 rfl rfl ?_
      refine w_iload_n 1 dX12_findHolds_31 rfl rfl ?_
      refine w_iconst (v := 0) dX12_findHolds_32 (by decide) ?_
      refine w_aload_n 0 ((some (57))) dX12_findHolds_33 rfl rfl ?_
      refine w_get (v := va_rf (some 65)) dX12_findHolds_34 fl_RX12_31 ⟨rfl, Or.inr ⟨rfl, by decide⟩⟩ (aFv_k rfl) ?_
      refine w_iload_n 1 dX12_findHolds_37 rfl rfl ?_
      replace h := e_grd h; obtain ⟨b5, h⟩ := h
      refine w_iaload dX12_findHolds_38 ⟨rfl, Or.inr ⟨rfl, by decide⟩⟩ b5 ?_
      replace h := e_bind h; obtain ⟨q6, e7, h⟩ := h
      refine w_callV1 (M2 := m_X12_setOf) (av := [.int (x1), .int (0), .int (gI σ 65 x1.toNatClampNeg)]) (ci := 12) (c_X12_setOf _ _ _ _ _ e7) dX12_findHolds_39 kd_X12_setOf wd_36_4 wd_36_5 wd_36_6 rfl rfl ⟨rfl, Or.inr ⟨rfl, by decide⟩⟩ rfl ⟨Nat.le_of_ble_eq_true rfl, Nat.le_of_ble_eq_true rfl, Nat.le_of_ble_eq_true rfl, Nat.le_of_ble_eq_true rfl⟩ (Nat.le_of_ble_eq_true rfl) ?_
      exact l_X12_findHolds_42 rec2 hrec2 _ _ _ _ _ h
    · replace h := e_t c4 h
      refine w_iconst (v := 0) dX12_findHolds_26 (by decide) ?_
      refine w_goto 42 dX12_findHolds_27 (by decide) ?_
      exact l_X12_findHolds_42 rec2 hrec2 _ _ _ _ _ h
theorem l_X12_findHolds_2  : ∀ (n : Nat) (x1 : Int32) (σ : aSt) (o : Unit × aSt), f_X12_findHolds_2  n x1 σ = some o → AW true m_X12_findHolds 2 [(0, va_rf (some (57))), (1, Value.int (x1))] [] σ 0 0 none o.2
  | 0 => fun x1 σ o h => by cases h
  | n + 1 => fun x1 σ o h => l_X12_findHolds_2_b (f_X12_findHolds_2  n) (l_X12_findHolds_2  n) x1 σ o h
set_option maxRecDepth 100000 in
set_option maxHeartbeats 4000000 in
theorem c_X12_findHolds  (σ : aSt) (o : Unit × aSt) (h : f_X12_findHolds  σ = some o) : AM true m_X12_findHolds [va_rf (some (57))] σ none o.2 := by
  refine AM_of2 (lv := [(0, va_rf (some (57)))]) (by decide +kernel) rfl (Nat.le_of_ble_eq_true rfl) ?_
  unfold f_X12_findHolds at h
  refine w_iconst (v := 0) dX12_findHolds_0 (by decide) ?_
  refine w_istore_n dX12_findHolds_1 rfl (by decide) rfl ?_
  refine w_sub [1, 0] rfl ?_
  exact l_X12_findHolds_2 aN _ _ _ h
theorem dX12_costOfSet_0 : decode cX12_costOfSet 0 = .ok (.lconst 0, 1) := by decide +kernel
theorem dX12_costOfSet_1 : decode cX12_costOfSet 1 = .ok (.lstore_n 3, 1) := by decide +kernel
theorem dX12_costOfSet_2 : decode cX12_costOfSet 2 = .ok (.iconst 0, 1) := by decide +kernel
theorem dX12_costOfSet_3 : decode cX12_costOfSet 3 = .ok (.istore 5, 2) := by decide +kernel
theorem dX12_costOfSet_5 : decode cX12_costOfSet 5 = .ok (.iload 5, 2) := by decide +kernel
theorem dX12_costOfSet_7 : decode cX12_costOfSet 7 = .ok (.aload_n 0, 1) := by decide +kernel
theorem dX12_costOfSet_8 : decode cX12_costOfSet 8 = .ok (.getfield 127, 3) := by decide +kernel
theorem dX12_costOfSet_11 : decode cX12_costOfSet 11 = .ok (.if_icmp .ge 103, 3) := by decide +kernel
theorem dX12_costOfSet_14 : decode cX12_costOfSet 14 = .ok (.aload_n 0, 1) := by decide +kernel
theorem dX12_costOfSet_15 : decode cX12_costOfSet 15 = .ok (.getfield 37, 3) := by decide +kernel
theorem dX12_costOfSet_18 : decode cX12_costOfSet 18 = .ok (.iload 5, 2) := by decide +kernel
theorem dX12_costOfSet_20 : decode cX12_costOfSet 20 = .ok (.iaload, 1) := by decide +kernel
theorem dX12_costOfSet_21 : decode cX12_costOfSet 21 = .ok (.ldc 126, 2) := by decide +kernel
theorem dX12_costOfSet_23 : decode cX12_costOfSet 23 = .ok (.if_icmp .eq 85, 3) := by decide +kernel
theorem dX12_costOfSet_26 : decode cX12_costOfSet 26 = .ok (.aload_n 0, 1) := by decide +kernel
theorem dX12_costOfSet_27 : decode cX12_costOfSet 27 = .ok (.getfield 19, 3) := by decide +kernel
theorem dX12_costOfSet_30 : decode cX12_costOfSet 30 = .ok (.iload 5, 2) := by decide +kernel
theorem dX12_costOfSet_32 : decode cX12_costOfSet 32 = .ok (.iaload, 1) := by decide +kernel
theorem dX12_costOfSet_33 : decode cX12_costOfSet 33 = .ok (.iconst 2, 1) := by decide +kernel
theorem dX12_costOfSet_34 : decode cX12_costOfSet 34 = .ok (.irem, 1) := by decide +kernel
theorem dX12_costOfSet_35 : decode cX12_costOfSet 35 = .ok (.iload_n 2, 1) := by decide +kernel
theorem dX12_costOfSet_36 : decode cX12_costOfSet 36 = .ok (.if_icmp .ne 72, 3) := by decide +kernel
theorem dX12_costOfSet_39 : decode cX12_costOfSet 39 = .ok (.aload_n 0, 1) := by decide +kernel
theorem dX12_costOfSet_40 : decode cX12_costOfSet 40 = .ok (.getfield 92, 3) := by decide +kernel
theorem dX12_costOfSet_43 : decode cX12_costOfSet 43 = .ok (.iload 5, 2) := by decide +kernel
theorem dX12_costOfSet_45 : decode cX12_costOfSet 45 = .ok (.iaload, 1) := by decide +kernel
theorem dX12_costOfSet_46 : decode cX12_costOfSet 46 = .ok (.iload_n 1, 1) := by decide +kernel
theorem dX12_costOfSet_47 : decode cX12_costOfSet 47 = .ok (.iand, 1) := by decide +kernel
theorem dX12_costOfSet_48 : decode cX12_costOfSet 48 = .ok (.ifCond .eq 7, 3) := by decide +kernel
theorem dX12_costOfSet_51 : decode cX12_costOfSet 51 = .ok (.iconst 1, 1) := by decide +kernel
theorem dX12_costOfSet_52 : decode cX12_costOfSet 52 = .ok (.goto 4, 3) := by decide +kernel
theorem dX12_costOfSet_55 : decode cX12_costOfSet 55 = .ok (.iconst 0, 1) := by decide +kernel
theorem dX12_costOfSet_56 : decode cX12_costOfSet 56 = .ok (.istore 6, 2) := by decide +kernel
theorem dX12_costOfSet_58 : decode cX12_costOfSet 58 = .ok (.lload_n 3, 1) := by decide +kernel
theorem dX12_costOfSet_59 : decode cX12_costOfSet 59 = .ok (.aload_n 0, 1) := by decide +kernel
theorem dX12_costOfSet_60 : decode cX12_costOfSet 60 = .ok (.getfield 37, 3) := by decide +kernel
theorem dX12_costOfSet_63 : decode cX12_costOfSet 63 = .ok (.iload 5, 2) := by decide +kernel
theorem dX12_costOfSet_65 : decode cX12_costOfSet 65 = .ok (.iaload, 1) := by decide +kernel
theorem dX12_costOfSet_66 : decode cX12_costOfSet 66 = .ok (.iconst 1, 1) := by decide +kernel
theorem dX12_costOfSet_67 : decode cX12_costOfSet 67 = .ok (.if_icmp .ne 23, 3) := by decide +kernel
theorem dX12_costOfSet_70 : decode cX12_costOfSet 70 = .ok (.iload 6, 2) := by decide +kernel
theorem dX12_costOfSet_72 : decode cX12_costOfSet 72 = .ok (.ifCond .eq 7, 3) := by decide +kernel
theorem dX12_costOfSet_75 : decode cX12_costOfSet 75 = .ok (.lconst 0, 1) := by decide +kernel
theorem dX12_costOfSet_76 : decode cX12_costOfSet 76 = .ok (.goto 30, 3) := by decide +kernel
theorem dX12_costOfSet_79 : decode cX12_costOfSet 79 = .ok (.aload_n 0, 1) := by decide +kernel
theorem dX12_costOfSet_80 : decode cX12_costOfSet 80 = .ok (.getfield 31, 3) := by decide +kernel
theorem dX12_costOfSet_83 : decode cX12_costOfSet 83 = .ok (.iload 5, 2) := by decide +kernel
theorem dX12_costOfSet_85 : decode cX12_costOfSet 85 = .ok (.iaload, 1) := by decide +kernel
theorem dX12_costOfSet_86 : decode cX12_costOfSet 86 = .ok (.i2l, 1) := by decide +kernel
theorem dX12_costOfSet_87 : decode cX12_costOfSet 87 = .ok (.goto 19, 3) := by decide +kernel
theorem dX12_costOfSet_90 : decode cX12_costOfSet 90 = .ok (.iload 6, 2) := by decide +kernel
theorem dX12_costOfSet_92 : decode cX12_costOfSet 92 = .ok (.ifCond .eq 13, 3) := by decide +kernel
theorem dX12_costOfSet_95 : decode cX12_costOfSet 95 = .ok (.aload_n 0, 1) := by decide +kernel
theorem dX12_costOfSet_96 : decode cX12_costOfSet 96 = .ok (.getfield 89, 3) := by decide +kernel
theorem dX12_costOfSet_99 : decode cX12_costOfSet 99 = .ok (.iconst 0, 1) := by decide +kernel
theorem dX12_costOfSet_100 : decode cX12_costOfSet 100 = .ok (.iaload, 1) := by decide +kernel
theorem dX12_costOfSet_101 : decode cX12_costOfSet 101 = .ok (.i2l, 1) := by decide +kernel
theorem dX12_costOfSet_102 : decode cX12_costOfSet 102 = .ok (.goto 4, 3) := by decide +kernel
theorem dX12_costOfSet_105 : decode cX12_costOfSet 105 = .ok (.lconst 0, 1) := by decide +kernel
theorem dX12_costOfSet_106 : decode cX12_costOfSet 106 = .ok (.ladd, 1) := by decide +kernel
theorem dX12_costOfSet_107 : decode cX12_costOfSet 107 = .ok (.lstore_n 3, 1) := by decide +kernel
theorem dX12_costOfSet_108 : decode cX12_costOfSet 108 = .ok (.iinc 5 1, 3) := by decide +kernel
theorem dX12_costOfSet_111 : decode cX12_costOfSet 111 = .ok (.goto (-106), 3) := by decide +kernel
theorem dX12_costOfSet_114 : decode cX12_costOfSet 114 = .ok (.lload_n 3, 1) := by decide +kernel
theorem dX12_costOfSet_115 : decode cX12_costOfSet 115 = .ok (.lreturn, 1) := by decide +kernel
theorem kd_X12_costOfSet : aKd m_X12_costOfSet 2 := ⟨wd_44_17, wd_1_5, ⟨by decide +kernel, by decide +kernel, by decide +kernel⟩⟩
set_option maxRecDepth 100000 in
set_option maxHeartbeats 4000000 in
theorem l_X12_costOfSet_108 (rec5 : Int32 → Int32 → Int64 → Int32 → aSt → Option (Int64 × aSt)) (hrec5 : ∀ (x1 : Int32) (x2 : Int32) (x3 : Int64) (x5 : Int32) (σ : aSt) (o : Int64 × aSt), rec5 x1 x2 x3 x5 σ = some o → AW true m_X12_costOfSet 5 [(0, va_rf (some (57))), (1, Value.int (x1)), (2, Value.int (x2)), (3, Value.long (x3)), (5, Value.int (x5))] [] σ 0 0 (some (.long o.1)) o.2) (x1 : Int32) (x2 : Int32) (x3 : Int64) (x5 : Int32) (σ : aSt) (o : Int64 × aSt) (h : f_X12_costOfSet_108 rec5 x1 x2 x3 x5 σ = some o) : AW true m_X12_costOfSet 108 [(0, va_rf (some (57))), (1, Value.int (x1)), (2, Value.int (x2)), (3, Value.long (x3)), (5, Value.int (x5))] [] σ 0 0 (some (.long o.1)) o.2 := by
  unfold f_X12_costOfSet_108 at h
  refine w_iinc (q := 4) (v := x5 + 1) dX12_costOfSet_108 rfl rfl (by decide) rfl ?_
  refine w_goto 5 dX12_costOfSet_111 (by decide) ?_
  refine w_sub [1, 2, 3, 4, 0] rfl ?_
  exact hrec5 _ _ _ _ _ _ h
set_option maxRecDepth 100000 in
set_option maxHeartbeats 4000000 in
theorem l_X12_costOfSet_106 (rec5 : Int32 → Int32 → Int64 → Int32 → aSt → Option (Int64 × aSt)) (hrec5 : ∀ (x1 : Int32) (x2 : Int32) (x3 : Int64) (x5 : Int32) (σ : aSt) (o : Int64 × aSt), rec5 x1 x2 x3 x5 σ = some o → AW true m_X12_costOfSet 5 [(0, va_rf (some (57))), (1, Value.int (x1)), (2, Value.int (x2)), (3, Value.long (x3)), (5, Value.int (x5))] [] σ 0 0 (some (.long o.1)) o.2) (x1 : Int32) (x2 : Int32) (x5 : Int32) (t0 : Int64) (t1 : Int64) (σ : aSt) (o : Int64 × aSt) (h : f_X12_costOfSet_106 rec5 x1 x2 x5 t0 t1 σ = some o) : AW true m_X12_costOfSet 106 [(0, va_rf (some (57))), (1, Value.int (x1)), (2, Value.int (x2)), (5, Value.int (x5))] [.long (t1), .long (t0)] σ 0 0 (some (.long o.1)) o.2 := by
  unfold f_X12_costOfSet_106 at h
  refine w_ladd dX12_costOfSet_106 ?_
  refine w_lstore_n dX12_costOfSet_107 rfl (by decide) rfl ?_
  refine w_sub [1, 2, 3, 0, 4] rfl ?_
  exact l_X12_costOfSet_108 rec5 hrec5 _ _ _ _ _ _ h
set_option maxRecDepth 100000 in
set_option maxHeartbeats 4000000 in
theorem l_X12_costOfSet_56 (rec5 : Int32 → Int32 → Int64 → Int32 → aSt → Option (Int64 × aSt)) (hrec5 : ∀ (x1 : Int32) (x2 : Int32) (x3 : Int64) (x5 : Int32) (σ : aSt) (o : Int64 × aSt), rec5 x1 x2 x3 x5 σ = some o → AW true m_X12_costOfSet 5 [(0, va_rf (some (57))), (1, Value.int (x1)), (2, Value.int (x2)), (3, Value.long (x3)), (5, Value.int (x5))] [] σ 0 0 (some (.long o.1)) o.2) (x1 : Int32) (x2 : Int32) (x3 : Int64) (x5 : Int32) (t0 : Int32) (σ : aSt) (o : Int64 × aSt) (h : f_X12_costOfSet_56 rec5 x1 x2 x3 x5 t0 σ = some o) : AW true m_X12_costOfSet 56 [(0, va_rf (some (57))), (1, Value.int (x1)), (2, Value.int (x2)), (3, Value.long (x3)), (5, Value.int (x5))] [.int (t0)] σ 0 0 (some (.long o.1)) o.2 := by
  unfold f_X12_costOfSet_56 at h
  refine w_istore dX12_costOfSet_56 (by decide) rfl ?_
  refine w_lload_n 4 dX12_costOfSet_58 rfl rfl ?_
  refine w_aload_n 1 ((some (57))) dX12_costOfSet_59 rfl rfl ?_
  refine w_get (v := va_rf (some 67)) dX12_costOfSet_60 fl_RX12_37 ⟨rfl, Or.inr ⟨rfl, by decide⟩⟩ (aFv_k rfl) ?_
  refine w_iload 5 dX12_costOfSet_63 rfl ?_
  replace h := e_grd h; obtain ⟨b1, h⟩ := h
  refine w_iaload dX12_costOfSet_65 ⟨rfl, Or.inr ⟨rfl, by decide⟩⟩ b1 ?_
  refine w_iconst (v := 1) dX12_costOfSet_66 (by decide) ?_
  refine w_icmp_ne 90 dX12_costOfSet_67 (by decide) (fun c2 => ?_) (fun c2 => ?_)
  · replace h := e_f c2 h
    refine w_iload 0 dX12_costOfSet_90 rfl ?_
    refine w_if_eq 105 dX12_costOfSet_92 (by decide) (fun c3 => ?_) (fun c3 => ?_)
    · replace h := e_t c3 h
      refine w_lconst (v := 0) dX12_costOfSet_105 (by decide) ?_
      refine w_sub [1, 2, 3, 5] rfl ?_
      exact l_X12_costOfSet_106 rec5 hrec5 _ _ _ _ _ _ _ h
    · replace h := e_f c3 h
      refine w_aload_n 1 ((some (57))) dX12_costOfSet_95 rfl rfl ?_
      refine w_get (v := va_rf (some 80)) dX12_costOfSet_96 fl_RX12_89 ⟨rfl, Or.inr ⟨rfl, by decide⟩⟩ (aFv_k rfl) ?_
      refine w_iconst (v := 0) dX12_costOfSet_99 (by decide) ?_
      refine w_iaload dX12_costOfSet_100 ⟨rfl, Or.inr ⟨rfl, by decide⟩⟩ (by decide) ?_
      refine w_i2l dX12_costOfSet_101 ?_
      refine w_goto 106 dX12_costOfSet_102 (by decide) ?_
      refine w_sub [1, 2, 3, 5] rfl ?_
      exact l_X12_costOfSet_106 rec5 hrec5 _ _ _ _ _ _ _ h
  · replace h := e_t c2 h
    refine w_iload 0 dX12_costOfSet_70 rfl ?_
    refine w_if_eq 79 dX12_costOfSet_72 (by decide) (fun c5 => ?_) (fun c5 => ?_)
    · replace h := e_t c5 h
      refine w_aload_n 1 ((some (57))) dX12_costOfSet_79 rfl rfl ?_
      refine w_get (v := va_rf (some 65)) dX12_costOfSet_80 fl_RX12_31 ⟨rfl, Or.inr ⟨rfl, by decide⟩⟩ (aFv_k rfl) ?_
      refine w_iload 5 dX12_costOfSet_83 rfl ?_
      replace h := e_grd h; obtain ⟨b6, h⟩ := h
      refine w_iaload dX12_costOfSet_85 ⟨rfl, Or.inr ⟨rfl, by decide⟩⟩ b6 ?_
      refine w_i2l dX12_costOfSet_86 ?_
      refine w_goto 106 dX12_costOfSet_87 (by decide) ?_
      refine w_sub [1, 2, 3, 5] rfl ?_
      exact l_X12_costOfSet_106 rec5 hrec5 _ _ _ _ _ _ _ h
    · replace h := e_f c5 h
      refine w_lconst (v := 0) dX12_costOfSet_75 (by decide) ?_
      refine w_goto 106 dX12_costOfSet_76 (by decide) ?_
      refine w_sub [1, 2, 3, 5] rfl ?_
      exact l_X12_costOfSet_106 rec5 hrec5 _ _ _ _ _ _ _ h
set_option maxRecDepth 100000 in
set_option maxHeartbeats 4000000 in
theorem l_X12_costOfSet_5_b (rec5 : Int32 → Int32 → Int64 → Int32 → aSt → Option (Int64 × aSt)) (hrec5 : ∀ (x1 : Int32) (x2 : Int32) (x3 : Int64) (x5 : Int32) (σ : aSt) (o : Int64 × aSt), rec5 x1 x2 x3 x5 σ = some o → AW true m_X12_costOfSet 5 [(0, va_rf (some (57))), (1, Value.int (x1)), (2, Value.int (x2)), (3, Value.long (x3)), (5, Value.int (x5))] [] σ 0 0 (some (.long o.1)) o.2) (x1 : Int32) (x2 : Int32) (x3 : Int64) (x5 : Int32) (σ : aSt) (o : Int64 × aSt) (h : f_X12_costOfSet_5_b rec5 x1 x2 x3 x5 σ = some o) : AW true m_X12_costOfSet 5 [(0, va_rf (some (57))), (1, Value.int (x1)), (2, Value.int (x2)), (3, Value.long (x3)), (5, Value.int (x5))] [] σ 0 0 (some (.long o.1)) o.2 := by
  unfold f_X12_costOfSet_5_b at h
  refine w_iload 4 dX12_costOfSet_5 rfl ?_
  refine w_aload_n 0 ((some (57))) dX12_costOfSet_7 rfl rfl ?_
  refine w_get dX12_costOfSet_8 fl_RX12_127 ⟨rfl, Or.inr ⟨rfl, by decide⟩⟩ (aFv_i rfl) ?_
  refine w_icmp_ge 114 dX12_costOfSet_11 (by decide) (fun c7 => ?_) (fun c7 => ?_)
  · replace h := e_t c7 h
    refine w_lload_n 3 dX12_costOfSet_114 rfl rfl ?_
    obtain rfl := Option.some.inj h
    exact w_lreturn dX12_costOfSet_115 rfl (Nat.le_of_ble_eq_true rfl) (Nat.le_of_ble_eq_true rfl)
  · replace h := e_f c7 h
    refine w_aload_n 0 ((some (57))) dX12_costOfSet_14 rfl rfl ?_
    refine w_get (v := va_rf (some 67)) dX12_costOfSet_15 fl_RX12_37 ⟨rfl, Or.inr ⟨rfl, by decide⟩⟩ (aFv_k rfl) ?_
    refine w_iload 4 dX12_costOfSet_18 rfl ?_
    replace h := e_grd h; obtain ⟨b8, h⟩ := h
    refine w_iaload dX12_costOfSet_20 ⟨rfl, Or.inr ⟨rfl, by decide⟩⟩ b8 ?_
    refine w_ldc (v := (-1000000)) dX12_costOfSet_21 wd_15_11 ?_
    refine w_icmp_eq 108 dX12_costOfSet_23 (by decide) (fun c9 => ?_) (fun c9 => ?_)
    · replace h := e_t c9 h
      exact l_X12_costOfSet_108 rec5 hrec5 _ _ _ _ _ _ h
    · replace h := e_f c9 h
      refine w_aload_n 0 ((some (57))) dX12_costOfSet_26 rfl rfl ?_
      refine w_get (v := va_rf (some 61)) dX12_costOfSet_27 fl_RX12_19 ⟨rfl, Or.inr ⟨rfl, by decide⟩⟩ (aFv_k rfl) ?_
      refine w_iload 4 dX12_costOfSet_30 rfl ?_
      replace h := e_grd h; obtain ⟨b10, h⟩ := h
      refine w_iaload dX12_costOfSet_32 ⟨rfl, Or.inr ⟨rfl, by decide⟩⟩ b10 ?_
      refine w_iconst (v := 2) dX12_costOfSet_33 (by decide) ?_
      refine w_irem dX12_costOfSet_34 (by decide) ?_
      refine w_iload_n 2 dX12_costOfSet_35 rfl rfl ?_
      refine w_icmp_ne 108 dX12_costOfSet_36 (by decide) (fun c11 => ?_) (fun c11 => ?_)
      · replace h := e_f c11 h
        exact l_X12_costOfSet_108 rec5 hrec5 _ _ _ _ _ _ h
      · replace h := e_t c11 h
        refine w_aload_n 0 ((some (57))) dX12_costOfSet_39 rfl rfl ?_
        refine w_get (v := va_rf (some 81)) dX12_costOfSet_40 fl_RX12_92 ⟨rfl, Or.inr ⟨rfl, by decide⟩⟩ (aFv_k rfl) ?_
        refine w_iload 4 dX12_costOfSet_43 rfl ?_
        replace h := e_grd h; obtain ⟨b12, h⟩ := h
        refine w_iaload dX12_costOfSet_45 ⟨rfl, Or.inr ⟨rfl, by decide⟩⟩ b12 ?_
        refine w_iload_n 1 dX12_costOfSet_46 rfl rfl ?_
        refine w_iand dX12_costOfSet_47 ?_
        refine w_if_eq 55 dX12_costOfSet_48 (by decide) (fun c13 => ?_) (fun c13 => ?_)
        · replace h := e_t c13 h
          refine w_iconst (v := 0) dX12_costOfSet_55 (by decide) ?_
          exact l_X12_costOfSet_56 rec5 hrec5 _ _ _ _ _ _ _ h
        · replace h := e_f c13 h
          refine w_iconst (v := 1) dX12_costOfSet_51 (by decide) ?_
          refine w_goto 56 dX12_costOfSet_52 (by decide) ?_
          exact l_X12_costOfSet_56 rec5 hrec5 _ _ _ _ _ _ _ h
theorem l_X12_costOfSet_5  : ∀ (n : Nat) (x1 : Int32) (x2 : Int32) (x3 : Int64) (x5 : Int32) (σ : aSt) (o : Int64 × aSt), f_X12_costOfSet_5  n x1 x2 x3 x5 σ = some o → AW true m_X12_costOfSet 5 [(0, va_rf (some (57))), (1, Value.int (x1)), (2, Value.int (x2)), (3, Value.long (x3)), (5, Value.int (x5))] [] σ 0 0 (some (.long o.1)) o.2
  | 0 => fun x1 x2 x3 x5 σ o h => by cases h
  | n + 1 => fun x1 x2 x3 x5 σ o h => l_X12_costOfSet_5_b (f_X12_costOfSet_5  n) (l_X12_costOfSet_5  n) x1 x2 x3 x5 σ o h
set_option maxRecDepth 100000 in
set_option maxHeartbeats 4000000 in
theorem c_X12_costOfSet (p1 : Int32) (p2 : Int32) (σ : aSt) (o : Int64 × aSt) (h : f_X12_costOfSet p1 p2 σ = some o) : AM true m_X12_costOfSet [va_rf (some (57)), .int (p1), .int (p2)] σ (some (.long o.1)) o.2 := by
  refine AM_of2 (lv := [(0, va_rf (some (57))), (1, Value.int (p1)), (2, Value.int (p2))]) (by decide +kernel) rfl (Nat.le_of_ble_eq_true rfl) ?_
  unfold f_X12_costOfSet at h
  refine w_lconst (v := 0) dX12_costOfSet_0 (by decide) ?_
  refine w_lstore_n dX12_costOfSet_1 rfl (by decide) rfl ?_
  refine w_iconst (v := 0) dX12_costOfSet_2 (by decide) ?_
  refine w_istore dX12_costOfSet_3 (by decide) rfl ?_
  refine w_sub [2, 3, 4, 1, 0] rfl ?_
  exact l_X12_costOfSet_5 aN _ _ _ _ _ _ h
theorem dX12_learnt_0 : decode cX12_learnt 0 = .ok (.aload_n 0, 1) := by decide +kernel
theorem dX12_learnt_1 : decode cX12_learnt 1 = .ok (.iconst 0, 1) := by decide +kernel
theorem dX12_learnt_2 : decode cX12_learnt 2 = .ok (.putfield 102, 3) := by decide +kernel
theorem dX12_learnt_5 : decode cX12_learnt 5 = .ok (.iload_n 1, 1) := by decide +kernel
theorem dX12_learnt_6 : decode cX12_learnt 6 = .ok (.i2l, 1) := by decide +kernel
theorem dX12_learnt_7 : decode cX12_learnt 7 = .ok (.lconst 0, 1) := by decide +kernel
theorem dX12_learnt_8 : decode cX12_learnt 8 = .ok (.ldc2_w 136, 3) := by decide +kernel
theorem dX12_learnt_11 : decode cX12_learnt 11 = .ok (.invokestatic 111, 3) := by decide +kernel
theorem dX12_learnt_14 : decode cX12_learnt 14 = .ok (.ifCond .ne 7, 3) := by decide +kernel
theorem dX12_learnt_17 : decode cX12_learnt 17 = .ok (.ldc2_w 322, 3) := by decide +kernel
theorem dX12_learnt_20 : decode cX12_learnt 20 = .ok (.lreturn, 1) := by decide +kernel
theorem dX12_learnt_21 : decode cX12_learnt 21 = .ok (.aload_n 0, 1) := by decide +kernel
theorem dX12_learnt_22 : decode cX12_learnt 22 = .ok (.invokevirtual 331, 3) := by decide +kernel
theorem dX12_learnt_25 : decode cX12_learnt 25 = .ok (.iconst 0, 1) := by decide +kernel
theorem dX12_learnt_26 : decode cX12_learnt 26 = .ok (.istore_n 2, 1) := by decide +kernel
theorem dX12_learnt_27 : decode cX12_learnt 27 = .ok (.aload_n 0, 1) := by decide +kernel
theorem dX12_learnt_28 : decode cX12_learnt 28 = .ok (.iconst 0, 1) := by decide +kernel
theorem dX12_learnt_29 : decode cX12_learnt 29 = .ok (.iconst 0, 1) := by decide +kernel
theorem dX12_learnt_30 : decode cX12_learnt 30 = .ok (.invokevirtual 334, 3) := by decide +kernel
theorem dX12_learnt_33 : decode cX12_learnt 33 = .ok (.lstore_n 3, 1) := by decide +kernel
theorem dX12_learnt_34 : decode cX12_learnt 34 = .ok (.iconst 1, 1) := by decide +kernel
theorem dX12_learnt_35 : decode cX12_learnt 35 = .ok (.istore 5, 2) := by decide +kernel
theorem dX12_learnt_37 : decode cX12_learnt 37 = .ok (.iload 5, 2) := by decide +kernel
theorem dX12_learnt_39 : decode cX12_learnt 39 = .ok (.iconst 1, 1) := by decide +kernel
theorem dX12_learnt_40 : decode cX12_learnt 40 = .ok (.aload_n 0, 1) := by decide +kernel
theorem dX12_learnt_41 : decode cX12_learnt 41 = .ok (.getfield 292, 3) := by decide +kernel
theorem dX12_learnt_44 : decode cX12_learnt 44 = .ok (.ishl, 1) := by decide +kernel
theorem dX12_learnt_45 : decode cX12_learnt 45 = .ok (.if_icmp .ge 50, 3) := by decide +kernel
theorem dX12_learnt_48 : decode cX12_learnt 48 = .ok (.aload_n 0, 1) := by decide +kernel
theorem dX12_learnt_49 : decode cX12_learnt 49 = .ok (.iload 5, 2) := by decide +kernel
theorem dX12_learnt_51 : decode cX12_learnt 51 = .ok (.iconst 0, 1) := by decide +kernel
theorem dX12_learnt_52 : decode cX12_learnt 52 = .ok (.invokevirtual 334, 3) := by decide +kernel
theorem dX12_learnt_55 : decode cX12_learnt 55 = .ok (.lstore 6, 2) := by decide +kernel
theorem dX12_learnt_57 : decode cX12_learnt 57 = .ok (.lload 6, 2) := by decide +kernel
theorem dX12_learnt_59 : decode cX12_learnt 59 = .ok (.lload_n 3, 1) := by decide +kernel
theorem dX12_learnt_60 : decode cX12_learnt 60 = .ok (.lcmp, 1) := by decide +kernel
theorem dX12_learnt_61 : decode cX12_learnt 61 = .ok (.ifCond .lt 22, 3) := by decide +kernel
theorem dX12_learnt_64 : decode cX12_learnt 64 = .ok (.lload 6, 2) := by decide +kernel
theorem dX12_learnt_66 : decode cX12_learnt 66 = .ok (.lload_n 3, 1) := by decide +kernel
theorem dX12_learnt_67 : decode cX12_learnt 67 = .ok (.lcmp, 1) := by decide +kernel
theorem dX12_learnt_68 : decode cX12_learnt 68 = .ok (.ifCond .ne 21, 3) := by decide +kernel
theorem dX12_learnt_71 : decode cX12_learnt 71 = .ok (.iload 5, 2) := by decide +kernel
theorem dX12_learnt_73 : decode cX12_learnt 73 = .ok (.invokestatic 166, 3) := by decide +kernel
theorem dX12_learnt_76 : decode cX12_learnt 76 = .ok (.iload_n 2, 1) := by decide +kernel
theorem dX12_learnt_77 : decode cX12_learnt 77 = .ok (.invokestatic 166, 3) := by decide +kernel
theorem dX12_learnt_80 : decode cX12_learnt 80 = .ok (.if_icmp .ge 9, 3) := by decide +kernel
theorem dX12_learnt_83 : decode cX12_learnt 83 = .ok (.lload 6, 2) := by decide +kernel
theorem dX12_learnt_85 : decode cX12_learnt 85 = .ok (.lstore_n 3, 1) := by decide +kernel
theorem dX12_learnt_86 : decode cX12_learnt 86 = .ok (.iload 5, 2) := by decide +kernel
theorem dX12_learnt_88 : decode cX12_learnt 88 = .ok (.istore_n 2, 1) := by decide +kernel
theorem dX12_learnt_89 : decode cX12_learnt 89 = .ok (.iinc 5 1, 3) := by decide +kernel
theorem dX12_learnt_92 : decode cX12_learnt 92 = .ok (.goto (-55), 3) := by decide +kernel
theorem dX12_learnt_95 : decode cX12_learnt 95 = .ok (.iload_n 1, 1) := by decide +kernel
theorem dX12_learnt_96 : decode cX12_learnt 96 = .ok (.ifCond .ne 8, 3) := by decide +kernel
theorem dX12_learnt_99 : decode cX12_learnt 99 = .ok (.iload_n 2, 1) := by decide +kernel
theorem dX12_learnt_100 : decode cX12_learnt 100 = .ok (.i2l, 1) := by decide +kernel
theorem dX12_learnt_101 : decode cX12_learnt 101 = .ok (.goto 34, 3) := by decide +kernel
theorem dX12_learnt_104 : decode cX12_learnt 104 = .ok (.iload_n 1, 1) := by decide +kernel
theorem dX12_learnt_105 : decode cX12_learnt 105 = .ok (.iconst 1, 1) := by decide +kernel
theorem dX12_learnt_106 : decode cX12_learnt 106 = .ok (.if_icmp .ne 7, 3) := by decide +kernel
theorem dX12_learnt_109 : decode cX12_learnt 109 = .ok (.lload_n 3, 1) := by decide +kernel
theorem dX12_learnt_110 : decode cX12_learnt 110 = .ok (.goto 25, 3) := by decide +kernel
theorem dX12_learnt_113 : decode cX12_learnt 113 = .ok (.aload_n 0, 1) := by decide +kernel
theorem dX12_learnt_114 : decode cX12_learnt 114 = .ok (.iload_n 1, 1) := by decide +kernel
theorem dX12_learnt_115 : decode cX12_learnt 115 = .ok (.iconst 2, 1) := by decide +kernel
theorem dX12_learnt_116 : decode cX12_learnt 116 = .ok (.if_icmp .ne 7, 3) := by decide +kernel
theorem dX12_learnt_119 : decode cX12_learnt 119 = .ok (.iload_n 2, 1) := by decide +kernel
theorem dX12_learnt_120 : decode cX12_learnt 120 = .ok (.goto 11, 3) := by decide +kernel
theorem dX12_learnt_123 : decode cX12_learnt 123 = .ok (.iconst 1, 1) := by decide +kernel
theorem dX12_learnt_124 : decode cX12_learnt 124 = .ok (.aload_n 0, 1) := by decide +kernel
theorem dX12_learnt_125 : decode cX12_learnt 125 = .ok (.getfield 292, 3) := by decide +kernel
theorem dX12_learnt_128 : decode cX12_learnt 128 = .ok (.ishl, 1) := by decide +kernel
theorem dX12_learnt_129 : decode cX12_learnt 129 = .ok (.iconst 1, 1) := by decide +kernel
theorem dX12_learnt_130 : decode cX12_learnt 130 = .ok (.isub, 1) := by decide +kernel
theorem dX12_learnt_131 : decode cX12_learnt 131 = .ok (.iconst 1, 1) := by decide +kernel
theorem dX12_learnt_132 : decode cX12_learnt 132 = .ok (.invokevirtual 334, 3) := by decide +kernel
theorem dX12_learnt_135 : decode cX12_learnt 135 = .ok (.lreturn, 1) := by decide +kernel
theorem kd_X12_learnt : aKd m_X12_learnt 1 := ⟨wd_44_9, wd_1_5, ⟨by decide +kernel, by decide +kernel, by decide +kernel⟩⟩
set_option maxRecDepth 100000 in
set_option maxHeartbeats 4000000 in
theorem l_X12_learnt_89 (rec37 : Int32 → Int32 → Int64 → Int32 → aSt → Option (Int64 × aSt)) (hrec37 : ∀ (x1 : Int32) (x2 : Int32) (x3 : Int64) (x5 : Int32) (σ : aSt) (o : Int64 × aSt), rec37 x1 x2 x3 x5 σ = some o → AW true m_X12_learnt 37 [(0, va_rf (some (57))), (1, Value.int (x1)), (2, Value.int (x2)), (3, Value.long (x3)), (5, Value.int (x5))] [] σ 0 0 (some (.long o.1)) o.2) (x1 : Int32) (x2 : Int32) (x3 : Int64) (x5 : Int32) (σ : aSt) (o : Int64 × aSt) (h : f_X12_learnt_89 rec37 x1 x2 x3 x5 σ = some o) : AW true m_X12_learnt 89 [(0, va_rf (some (57))), (1, Value.int (x1)), (2, Value.int (x2)), (3, Value.long (x3)), (5, Value.int (x5))] [] σ 0 0 (some (.long o.1)) o.2 := by
  unfold f_X12_learnt_89 at h
  refine w_iinc (q := 4) (v := x5 + 1) dX12_learnt_89 rfl rfl (by decide) rfl ?_
  refine w_goto 37 dX12_learnt_92 (by decide) ?_
  refine w_sub [1, 2, 3, 4, 0] rfl ?_
  exact hrec37 _ _ _ _ _ _ h
set_option maxRecDepth 100000 in
set_option maxHeartbeats 4000000 in
theorem l_X12_learnt_83 (rec37 : Int32 → Int32 → Int64 → Int32 → aSt → Option (Int64 × aSt)) (hrec37 : ∀ (x1 : Int32) (x2 : Int32) (x3 : Int64) (x5 : Int32) (σ : aSt) (o : Int64 × aSt), rec37 x1 x2 x3 x5 σ = some o → AW true m_X12_learnt 37 [(0, va_rf (some (57))), (1, Value.int (x1)), (2, Value.int (x2)), (3, Value.long (x3)), (5, Value.int (x5))] [] σ 0 0 (some (.long o.1)) o.2) (x1 : Int32) (x5 : Int32) (x6 : Int64) (σ : aSt) (o : Int64 × aSt) (h : f_X12_learnt_83 rec37 x1 x5 x6 σ = some o) : AW true m_X12_learnt 83 [(0, va_rf (some (57))), (1, Value.int (x1)), (5, Value.int (x5)), (6, Value.long (x6))] [] σ 0 0 (some (.long o.1)) o.2 := by
  unfold f_X12_learnt_83 at h
  refine w_lload 3 dX12_learnt_83 rfl ?_
  refine w_lstore_n dX12_learnt_85 rfl (by decide) rfl ?_
  refine w_iload 3 dX12_learnt_86 rfl ?_
  refine w_istore_n dX12_learnt_88 rfl (by decide) rfl ?_
  refine w_sub [2, 3, 0, 1, 4] rfl ?_
  exact l_X12_learnt_89 rec37 hrec37 _ _ _ _ _ _ h
set_option maxRecDepth 100000 in
set_option maxHeartbeats 4000000 in
theorem l_X12_learnt_135  (t0 : Int64) (σ : aSt) (o : Int64 × aSt) (h : f_X12_learnt_135  t0 σ = some o) : AW true m_X12_learnt 135 [] [.long (t0)] σ 0 0 (some (.long o.1)) o.2 := by
  unfold f_X12_learnt_135 at h
  obtain rfl := Option.some.inj h
  exact w_lreturn dX12_learnt_135 rfl (Nat.le_of_ble_eq_true rfl) (Nat.le_of_ble_eq_true rfl)
set_option maxRecDepth 100000 in
set_option maxHeartbeats 4000000 in
theorem l_X12_learnt_131  (t1 : Int32) (σ : aSt) (o : Int64 × aSt) (h : f_X12_learnt_131  t1 σ = some o) : AW true m_X12_learnt 131 [] [.int (t1), va_rf (some (57))] σ 0 0 (some (.long o.1)) o.2 := by
  unfold f_X12_learnt_131 at h
  refine w_iconst (v := 1) dX12_learnt_131 (by decide) ?_
  replace h := e_bind h; obtain ⟨q8, e9, h⟩ := h
  refine w_callV1 (M2 := m_X12_costOfSet) (av := [.int (t1), .int (1)]) (ci := 12) (c_X12_costOfSet _ _ _ _ e9) dX12_learnt_132 kd_X12_costOfSet wd_44_14 wd_44_15 wd_44_16 rfl rfl ⟨rfl, Or.inr ⟨rfl, by decide⟩⟩ rfl ⟨Nat.le_of_ble_eq_true rfl, Nat.le_of_ble_eq_true rfl, Nat.le_of_ble_eq_true rfl, Nat.le_of_ble_eq_true rfl⟩ (Nat.le_of_ble_eq_true rfl) ?_
  exact l_X12_learnt_135 _ _ _ h
set_option maxRecDepth 100000 in
set_option maxHeartbeats 4000000 in
theorem l_X12_learnt_37_b (rec37 : Int32 → Int32 → Int64 → Int32 → aSt → Option (Int64 × aSt)) (hrec37 : ∀ (x1 : Int32) (x2 : Int32) (x3 : Int64) (x5 : Int32) (σ : aSt) (o : Int64 × aSt), rec37 x1 x2 x3 x5 σ = some o → AW true m_X12_learnt 37 [(0, va_rf (some (57))), (1, Value.int (x1)), (2, Value.int (x2)), (3, Value.long (x3)), (5, Value.int (x5))] [] σ 0 0 (some (.long o.1)) o.2) (x1 : Int32) (x2 : Int32) (x3 : Int64) (x5 : Int32) (σ : aSt) (o : Int64 × aSt) (h : f_X12_learnt_37_b rec37 x1 x2 x3 x5 σ = some o) : AW true m_X12_learnt 37 [(0, va_rf (some (57))), (1, Value.int (x1)), (2, Value.int (x2)), (3, Value.long (x3)), (5, Value.int (x5))] [] σ 0 0 (some (.long o.1)) o.2 := by
  unfold f_X12_learnt_37_b at h
  refine w_iload 4 dX12_learnt_37 rfl ?_
  refine w_iconst (v := 1) dX12_learnt_39 (by decide) ?_
  refine w_aload_n 0 ((some (57))) dX12_learnt_40 rfl rfl ?_
  refine w_get dX12_learnt_41 fl_RX12_292 ⟨rfl, Or.inr ⟨rfl, by decide⟩⟩ (aFv_i rfl) ?_
  refine w_ishl dX12_learnt_44 ?_
  refine w_icmp_ge 95 dX12_learnt_45 (by decide) (fun c10 => ?_) (fun c10 => ?_)
  · replace h := e_t c10 h
    refine w_iload_n 1 dX12_learnt_95 rfl rfl ?_
    refine w_if_ne 104 dX12_learnt_96 (by decide) (fun c11 => ?_) (fun c11 => ?_)
    · replace h := e_f c11 h
      refine w_iload_n 1 dX12_learnt_104 rfl rfl ?_
      refine w_iconst (v := 1) dX12_learnt_105 (by decide) ?_
      refine w_icmp_ne 113 dX12_learnt_106 (by decide) (fun c12 => ?_) (fun c12 => ?_)
      · replace h := e_f c12 h
        refine w_aload_n 0 ((some (57))) dX12_learnt_113 rfl rfl ?_
        refine w_iload_n 1 dX12_learnt_114 rfl rfl ?_
        refine w_iconst (v := 2) dX12_learnt_115 (by decide) ?_
        refine w_icmp_ne 123 dX12_learnt_116 (by decide) (fun c13 => ?_) (fun c13 => ?_)
        · replace h := e_f c13 h
          refine w_iconst (v := 1) dX12_learnt_123 (by decide) ?_
          refine w_aload_n 0 ((some (57))) dX12_learnt_124 rfl rfl ?_
          refine w_get dX12_learnt_125 fl_RX12_292 ⟨rfl, Or.inr ⟨rfl, by decide⟩⟩ (aFv_i rfl) ?_
          refine w_ishl dX12_learnt_128 ?_
          refine w_iconst (v := 1) dX12_learnt_129 (by decide) ?_
          refine w_isub dX12_learnt_130 ?_
          refine w_sub [] rfl ?_
          exact l_X12_learnt_131 _ _ _ h
        · replace h := e_t c13 h
          refine w_iload_n 2 dX12_learnt_119 rfl rfl ?_
          refine w_goto 131 dX12_learnt_120 (by decide) ?_
          refine w_sub [] rfl ?_
          exact l_X12_learnt_131 _ _ _ h
      · replace h := e_t c12 h
        refine w_lload_n 3 dX12_learnt_109 rfl rfl ?_
        refine w_goto 135 dX12_learnt_110 (by decide) ?_
        refine w_sub [] rfl ?_
        exact l_X12_learnt_135 _ _ _ h
    · replace h := e_t c11 h
      refine w_iload_n 2 dX12_learnt_99 rfl rfl ?_
      refine w_i2l dX12_learnt_100 ?_
      refine w_goto 135 dX12_learnt_101 (by decide) ?_
      refine w_sub [] rfl ?_
      exact l_X12_learnt_135 _ _ _ h
  · replace h := e_f c10 h
    refine w_aload_n 0 ((some (57))) dX12_learnt_48 rfl rfl ?_
    refine w_iload 4 dX12_learnt_49 rfl ?_
    refine w_iconst (v := 0) dX12_learnt_51 (by decide) ?_
    replace h := e_bind h; obtain ⟨q14, e15, h⟩ := h
    refine w_callV1 (M2 := m_X12_costOfSet) (av := [.int (x5), .int (0)]) (ci := 12) (c_X12_costOfSet _ _ _ _ e15) dX12_learnt_52 kd_X12_costOfSet wd_44_14 wd_44_15 wd_44_16 rfl rfl ⟨rfl, Or.inr ⟨rfl, by decide⟩⟩ rfl ⟨Nat.le_of_ble_eq_true rfl, Nat.le_of_ble_eq_true rfl, Nat.le_of_ble_eq_true rfl, Nat.le_of_ble_eq_true rfl⟩ (Nat.le_of_ble_eq_true rfl) ?_
    refine w_lstore dX12_learnt_55 (by decide) rfl ?_
    refine w_lload 0 dX12_learnt_57 rfl ?_
    refine w_lload_n 4 dX12_learnt_59 rfl rfl ?_
    refine w_lcmp dX12_learnt_60 ?_
    refine w_if_lt 83 dX12_learnt_61 (by decide) (fun c16 => ?_) (fun c16 => ?_)
    · replace h := e_t c16 h
      refine w_sub [1, 2, 5, 0] rfl ?_
      exact l_X12_learnt_83 rec37 hrec37 _ _ _ _ _ h
    · replace h := e_f c16 h
      refine w_lload 0 dX12_learnt_64 rfl ?_
      refine w_lload_n 4 dX12_learnt_66 rfl rfl ?_
      refine w_lcmp dX12_learnt_67 ?_
      refine w_if_ne 89 dX12_learnt_68 (by decide) (fun c17 => ?_) (fun c17 => ?_)
      · replace h := e_f c17 h
        refine w_sub [1, 2, 3, 4, 5] rfl ?_
        exact l_X12_learnt_89 rec37 hrec37 _ _ _ _ _ _ h
      · replace h := e_t c17 h
        refine w_iload 5 dX12_learnt_71 rfl ?_
        replace h := e_bind h; obtain ⟨q18, e19, h⟩ := h
        refine w_callS1 (M2 := m_X12_bits) (av := [.int (x5)]) (c_X12_bits _ _ _ e19) dX12_learnt_73 kd_X12_bits wd_21_6 wd_21_7 rfl rfl ⟨Nat.le_of_ble_eq_true rfl, Nat.le_of_ble_eq_true rfl, Nat.le_of_ble_eq_true rfl, Nat.le_of_ble_eq_true rfl⟩ (Nat.le_of_ble_eq_true rfl) ?_
        refine w_iload_n 3 dX12_learnt_76 rfl rfl ?_
        replace h := e_bind h; obtain ⟨q20, e21, h⟩ := h
        refine w_callS1 (M2 := m_X12_bits) (av := [.int (x2)]) (c_X12_bits _ _ _ e21) dX12_learnt_77 kd_X12_bits wd_21_6 wd_21_7 rfl rfl ⟨Nat.le_of_ble_eq_true rfl, Nat.le_of_ble_eq_true rfl, Nat.le_of_ble_eq_true rfl, Nat.le_of_ble_eq_true rfl⟩ (Nat.le_of_ble_eq_true rfl) ?_
        refine w_icmp_ge 89 dX12_learnt_80 (by decide) (fun c22 => ?_) (fun c22 => ?_)
        · replace h := e_t c22 h
          refine w_sub [1, 2, 3, 4, 5] rfl ?_
          exact l_X12_learnt_89 rec37 hrec37 _ _ _ _ _ _ h
        · replace h := e_f c22 h
          refine w_sub [1, 2, 5, 0] rfl ?_
          exact l_X12_learnt_83 rec37 hrec37 _ _ _ _ _ h
theorem l_X12_learnt_37  : ∀ (n : Nat) (x1 : Int32) (x2 : Int32) (x3 : Int64) (x5 : Int32) (σ : aSt) (o : Int64 × aSt), f_X12_learnt_37  n x1 x2 x3 x5 σ = some o → AW true m_X12_learnt 37 [(0, va_rf (some (57))), (1, Value.int (x1)), (2, Value.int (x2)), (3, Value.long (x3)), (5, Value.int (x5))] [] σ 0 0 (some (.long o.1)) o.2
  | 0 => fun x1 x2 x3 x5 σ o h => by cases h
  | n + 1 => fun x1 x2 x3 x5 σ o h => l_X12_learnt_37_b (f_X12_learnt_37  n) (l_X12_learnt_37  n) x1 x2 x3 x5 σ o h
set_option maxRecDepth 100000 in
set_option maxHeartbeats 4000000 in
theorem c_X12_learnt (p1 : Int32) (σ : aSt) (o : Int64 × aSt) (h : f_X12_learnt p1 σ = some o) : AM true m_X12_learnt [va_rf (some (57)), .int (p1)] σ (some (.long o.1)) o.2 := by
  refine AM_of2 (lv := [(0, va_rf (some (57))), (1, Value.int (p1))]) (by decide +kernel) rfl (Nat.le_of_ble_eq_true rfl) ?_
  unfold f_X12_learnt at h
  refine w_aload_n 0 ((some (57))) dX12_learnt_0 rfl rfl ?_
  refine w_iconst (v := 0) dX12_learnt_1 (by decide) ?_
  refine w_putI dX12_learnt_2 fl_RX12_102 (Or.inl rfl) rfl ⟨rfl, Or.inr ⟨rfl, by decide⟩⟩ ?_
  refine w_iload_n 1 dX12_learnt_5 rfl rfl ?_
  refine w_i2l dX12_learnt_6 ?_
  refine w_lconst (v := 0) dX12_learnt_7 (by decide) ?_
  refine w_ldc2 (v := 3) dX12_learnt_8 wd_15_10 ?_
  replace h := e_bind h; obtain ⟨q1, e2, h⟩ := h
  refine w_callS1 (M2 := m_X12_in) (av := [.long (p1.toInt64), .long (0), .long (3)]) (c_X12_in _ _ _ _ _ e2) dX12_learnt_11 kd_X12_in wd_11_3 wd_11_4 rfl rfl ⟨Nat.le_of_ble_eq_true rfl, Nat.le_of_ble_eq_true rfl, Nat.le_of_ble_eq_true rfl, Nat.le_of_ble_eq_true rfl⟩ (Nat.le_of_ble_eq_true rfl) ?_
  refine w_if_ne 21 dX12_learnt_14 (by decide) (fun c3 => ?_) (fun c3 => ?_)
  · replace h := e_f c3 h
    refine w_aload_n 0 ((some (57))) dX12_learnt_21 rfl rfl ?_
    replace h := e_bind h; obtain ⟨q4, e5, h⟩ := h
    refine w_callV0 (M2 := m_X12_findHolds) (av := []) (ci := 12) (c_X12_findHolds  _ _ e5) dX12_learnt_22 kd_X12_findHolds wd_44_10 wd_44_11 wd_44_12 rfl rfl ⟨rfl, Or.inr ⟨rfl, by decide⟩⟩ rfl ⟨Nat.le_of_ble_eq_true rfl, Nat.le_of_ble_eq_true rfl, Nat.le_of_ble_eq_true rfl, Nat.le_of_ble_eq_true rfl⟩ (Nat.le_of_ble_eq_true rfl) ?_
    refine w_iconst (v := 0) dX12_learnt_25 (by decide) ?_
    refine w_istore_n dX12_learnt_26 rfl (by decide) rfl ?_
    refine w_aload_n 1 ((some (57))) dX12_learnt_27 rfl rfl ?_
    refine w_iconst (v := 0) dX12_learnt_28 (by decide) ?_
    refine w_iconst (v := 0) dX12_learnt_29 (by decide) ?_
    replace h := e_bind h; obtain ⟨q6, e7, h⟩ := h
    refine w_callV1 (M2 := m_X12_costOfSet) (av := [.int (0), .int (0)]) (ci := 12) (c_X12_costOfSet _ _ _ _ e7) dX12_learnt_30 kd_X12_costOfSet wd_44_14 wd_44_15 wd_44_16 rfl rfl ⟨rfl, Or.inr ⟨rfl, by decide⟩⟩ rfl ⟨Nat.le_of_ble_eq_true rfl, Nat.le_of_ble_eq_true rfl, Nat.le_of_ble_eq_true rfl, Nat.le_of_ble_eq_true rfl⟩ (Nat.le_of_ble_eq_true rfl) ?_
    refine w_lstore_n dX12_learnt_33 rfl (by decide) rfl ?_
    refine w_iconst (v := 1) dX12_learnt_34 (by decide) ?_
    refine w_istore dX12_learnt_35 (by decide) rfl ?_
    refine w_sub [3, 4, 2, 1, 0] rfl ?_
    exact l_X12_learnt_37 aN _ _ _ _ _ _ h
  · replace h := e_t c3 h
    refine w_ldc2 (v := (-1000001)) dX12_learnt_17 wd_41_17 ?_
    obtain rfl := Option.some.inj h
    exact w_lreturn dX12_learnt_20 rfl (Nat.le_of_ble_eq_true rfl) (Nat.le_of_ble_eq_true rfl)
theorem dX12_costs_0 : decode cX12_costs 0 = .ok (.aload_n 0, 1) := by decide +kernel
theorem dX12_costs_1 : decode cX12_costs 1 = .ok (.iconst 0, 1) := by decide +kernel
theorem dX12_costs_2 : decode cX12_costs 2 = .ok (.putfield 102, 3) := by decide +kernel
theorem dX12_costs_5 : decode cX12_costs 5 = .ok (.iload_n 1, 1) := by decide +kernel
theorem dX12_costs_6 : decode cX12_costs 6 = .ok (.i2l, 1) := by decide +kernel
theorem dX12_costs_7 : decode cX12_costs 7 = .ok (.lconst 0, 1) := by decide +kernel
theorem dX12_costs_8 : decode cX12_costs 8 = .ok (.iconst 1, 1) := by decide +kernel
theorem dX12_costs_9 : decode cX12_costs 9 = .ok (.aload_n 0, 1) := by decide +kernel
theorem dX12_costs_10 : decode cX12_costs 10 = .ok (.getfield 292, 3) := by decide +kernel
theorem dX12_costs_13 : decode cX12_costs 13 = .ok (.ishl, 1) := by decide +kernel
theorem dX12_costs_14 : decode cX12_costs 14 = .ok (.iconst 1, 1) := by decide +kernel
theorem dX12_costs_15 : decode cX12_costs 15 = .ok (.isub, 1) := by decide +kernel
theorem dX12_costs_16 : decode cX12_costs 16 = .ok (.i2l, 1) := by decide +kernel
theorem dX12_costs_17 : decode cX12_costs 17 = .ok (.invokestatic 111, 3) := by decide +kernel
theorem dX12_costs_20 : decode cX12_costs 20 = .ok (.ifCond .eq 13, 3) := by decide +kernel
theorem dX12_costs_23 : decode cX12_costs 23 = .ok (.iload_n 2, 1) := by decide +kernel
theorem dX12_costs_24 : decode cX12_costs 24 = .ok (.i2l, 1) := by decide +kernel
theorem dX12_costs_25 : decode cX12_costs 25 = .ok (.lconst 0, 1) := by decide +kernel
theorem dX12_costs_26 : decode cX12_costs 26 = .ok (.lconst 1, 1) := by decide +kernel
theorem dX12_costs_27 : decode cX12_costs 27 = .ok (.invokestatic 111, 3) := by decide +kernel
theorem dX12_costs_30 : decode cX12_costs 30 = .ok (.ifCond .ne 7, 3) := by decide +kernel
theorem dX12_costs_33 : decode cX12_costs 33 = .ok (.ldc2_w 322, 3) := by decide +kernel
theorem dX12_costs_36 : decode cX12_costs 36 = .ok (.lreturn, 1) := by decide +kernel
theorem dX12_costs_37 : decode cX12_costs 37 = .ok (.aload_n 0, 1) := by decide +kernel
theorem dX12_costs_38 : decode cX12_costs 38 = .ok (.invokevirtual 331, 3) := by decide +kernel
theorem dX12_costs_41 : decode cX12_costs 41 = .ok (.aload_n 0, 1) := by decide +kernel
theorem dX12_costs_42 : decode cX12_costs 42 = .ok (.iload_n 1, 1) := by decide +kernel
theorem dX12_costs_43 : decode cX12_costs 43 = .ok (.iload_n 2, 1) := by decide +kernel
theorem dX12_costs_44 : decode cX12_costs 44 = .ok (.invokevirtual 334, 3) := by decide +kernel
theorem dX12_costs_47 : decode cX12_costs 47 = .ok (.lreturn, 1) := by decide +kernel
theorem kd_X12_costs : aKd m_X12_costs 2 := ⟨wd_45_1, wd_1_5, ⟨by decide +kernel, by decide +kernel, by decide +kernel⟩⟩
set_option maxRecDepth 100000 in
set_option maxHeartbeats 4000000 in
theorem l_X12_costs_33   (σ : aSt) (o : Int64 × aSt) (h : f_X12_costs_33   σ = some o) : AW true m_X12_costs 33 [] [] σ 0 0 (some (.long o.1)) o.2 := by
  unfold f_X12_costs_33 at h
  refine w_ldc2 (v := (-1000001)) dX12_costs_33 wd_41_17 ?_
  obtain rfl := Option.some.inj h
  exact w_lreturn dX12_costs_36 rfl (Nat.le_of_ble_eq_true rfl) (Nat.le_of_ble_eq_true rfl)
set_option maxRecDepth 100000 in
set_option maxHeartbeats 4000000 in
theorem c_X12_costs (p1 : Int32) (p2 : Int32) (σ : aSt) (o : Int64 × aSt) (h : f_X12_costs p1 p2 σ = some o) : AM true m_X12_costs [va_rf (some (57)), .int (p1), .int (p2)] σ (some (.long o.1)) o.2 := by
  refine AM_of2 (lv := [(0, va_rf (some (57))), (1, Value.int (p1)), (2, Value.int (p2))]) (by decide +kernel) rfl (Nat.le_of_ble_eq_true rfl) ?_
  unfold f_X12_costs at h
  refine w_aload_n 0 ((some (57))) dX12_costs_0 rfl rfl ?_
  refine w_iconst (v := 0) dX12_costs_1 (by decide) ?_
  refine w_putI dX12_costs_2 fl_RX12_102 (Or.inl rfl) rfl ⟨rfl, Or.inr ⟨rfl, by decide⟩⟩ ?_
  refine w_iload_n 1 dX12_costs_5 rfl rfl ?_
  refine w_i2l dX12_costs_6 ?_
  refine w_lconst (v := 0) dX12_costs_7 (by decide) ?_
  refine w_iconst (v := 1) dX12_costs_8 (by decide) ?_
  refine w_aload_n 0 ((some (57))) dX12_costs_9 rfl rfl ?_
  refine w_get dX12_costs_10 fl_RX12_292 ⟨rfl, Or.inr ⟨rfl, by decide⟩⟩ (aFv_i rfl) ?_
  refine w_ishl dX12_costs_13 ?_
  refine w_iconst (v := 1) dX12_costs_14 (by decide) ?_
  refine w_isub dX12_costs_15 ?_
  refine w_i2l dX12_costs_16 ?_
  replace h := e_bind h; obtain ⟨q1, e2, h⟩ := h
  refine w_callS1 (M2 := m_X12_in) (av := [.long (p1.toInt64), .long (0), .long ((((1 : Int32) <<< ((gI (sI σ 57 0 (0)) 57 20) &&& 31)) - 1).toInt64)]) (c_X12_in _ _ _ _ _ e2) dX12_costs_17 kd_X12_in wd_11_3 wd_11_4 rfl rfl ⟨Nat.le_of_ble_eq_true rfl, Nat.le_of_ble_eq_true rfl, Nat.le_of_ble_eq_true rfl, Nat.le_of_ble_eq_true rfl⟩ (Nat.le_of_ble_eq_true rfl) ?_
  refine w_if_eq 33 dX12_costs_20 (by decide) (fun c3 => ?_) (fun c3 => ?_)
  · replace h := e_t c3 h
    refine w_sub [] rfl ?_
    exact l_X12_costs_33 _ _ h
  · replace h := e_f c3 h
    refine w_iload_n 2 dX12_costs_23 rfl rfl ?_
    refine w_i2l dX12_costs_24 ?_
    refine w_lconst (v := 0) dX12_costs_25 (by decide) ?_
    refine w_lconst (v := 1) dX12_costs_26 (by decide) ?_
    replace h := e_bind h; obtain ⟨q4, e5, h⟩ := h
    refine w_callS1 (M2 := m_X12_in) (av := [.long (p2.toInt64), .long (0), .long (1)]) (c_X12_in _ _ _ _ _ e5) dX12_costs_27 kd_X12_in wd_11_3 wd_11_4 rfl rfl ⟨Nat.le_of_ble_eq_true rfl, Nat.le_of_ble_eq_true rfl, Nat.le_of_ble_eq_true rfl, Nat.le_of_ble_eq_true rfl⟩ (Nat.le_of_ble_eq_true rfl) ?_
    refine w_if_ne 37 dX12_costs_30 (by decide) (fun c6 => ?_) (fun c6 => ?_)
    · replace h := e_f c6 h
      refine w_aload_n 0 ((some (57))) dX12_costs_37 rfl rfl ?_
      replace h := e_bind h; obtain ⟨q7, e8, h⟩ := h
      refine w_callV0 (M2 := m_X12_findHolds) (av := []) (ci := 12) (c_X12_findHolds  _ _ e8) dX12_costs_38 kd_X12_findHolds wd_44_10 wd_44_11 wd_44_12 rfl rfl ⟨rfl, Or.inr ⟨rfl, by decide⟩⟩ rfl ⟨Nat.le_of_ble_eq_true rfl, Nat.le_of_ble_eq_true rfl, Nat.le_of_ble_eq_true rfl, Nat.le_of_ble_eq_true rfl⟩ (Nat.le_of_ble_eq_true rfl) ?_
      refine w_aload_n 0 ((some (57))) dX12_costs_41 rfl rfl ?_
      refine w_iload_n 1 dX12_costs_42 rfl rfl ?_
      refine w_iload_n 2 dX12_costs_43 rfl rfl ?_
      replace h := e_bind h; obtain ⟨q9, e10, h⟩ := h
      refine w_callV1 (M2 := m_X12_costOfSet) (av := [.int (p1), .int (p2)]) (ci := 12) (c_X12_costOfSet _ _ _ _ e10) dX12_costs_44 kd_X12_costOfSet wd_44_14 wd_44_15 wd_44_16 rfl rfl ⟨rfl, Or.inr ⟨rfl, by decide⟩⟩ rfl ⟨Nat.le_of_ble_eq_true rfl, Nat.le_of_ble_eq_true rfl, Nat.le_of_ble_eq_true rfl, Nat.le_of_ble_eq_true rfl⟩ (Nat.le_of_ble_eq_true rfl) ?_
      obtain rfl := Option.some.inj h
      exact w_lreturn dX12_costs_47 rfl (Nat.le_of_ble_eq_true rfl) (Nat.le_of_ble_eq_true rfl)
    · replace h := e_t c6 h
      refine w_sub [] rfl ?_
      exact l_X12_costs_33 _ _ h
theorem dX12_waysOf_0 : decode cX12_waysOf 0 = .ok (.iload_n 2, 1) := by decide +kernel
theorem dX12_waysOf_1 : decode cX12_waysOf 1 = .ok (.ifCond .lt 8, 3) := by decide +kernel
theorem dX12_waysOf_4 : decode cX12_waysOf 4 = .ok (.iload_n 2, 1) := by decide +kernel
theorem dX12_waysOf_5 : decode cX12_waysOf 5 = .ok (.iload_n 1, 1) := by decide +kernel
theorem dX12_waysOf_6 : decode cX12_waysOf 6 = .ok (.if_icmp .le 7, 3) := by decide +kernel
theorem dX12_waysOf_9 : decode cX12_waysOf 9 = .ok (.lconst 0, 1) := by decide +kernel
theorem dX12_waysOf_10 : decode cX12_waysOf 10 = .ok (.goto 14, 3) := by decide +kernel
theorem dX12_waysOf_13 : decode cX12_waysOf 13 = .ok (.aload_n 0, 1) := by decide +kernel
theorem dX12_waysOf_14 : decode cX12_waysOf 14 = .ok (.getfield 95, 3) := by decide +kernel
theorem dX12_waysOf_17 : decode cX12_waysOf 17 = .ok (.bipush 41, 2) := by decide +kernel
theorem dX12_waysOf_19 : decode cX12_waysOf 19 = .ok (.iload_n 1, 1) := by decide +kernel
theorem dX12_waysOf_20 : decode cX12_waysOf 20 = .ok (.imul, 1) := by decide +kernel
theorem dX12_waysOf_21 : decode cX12_waysOf 21 = .ok (.iload_n 2, 1) := by decide +kernel
theorem dX12_waysOf_22 : decode cX12_waysOf 22 = .ok (.iadd, 1) := by decide +kernel
theorem dX12_waysOf_23 : decode cX12_waysOf 23 = .ok (.laload, 1) := by decide +kernel
theorem dX12_waysOf_24 : decode cX12_waysOf 24 = .ok (.lreturn, 1) := by decide +kernel
theorem kd_X12_waysOf : aKd m_X12_waysOf 2 := ⟨wd_47_1, wd_1_5, ⟨by decide +kernel, by decide +kernel, by decide +kernel⟩⟩
set_option maxRecDepth 100000 in
set_option maxHeartbeats 4000000 in
theorem l_X12_waysOf_24  (t0 : Int64) (σ : aSt) (o : Int64 × aSt) (h : f_X12_waysOf_24  t0 σ = some o) : AW true m_X12_waysOf 24 [] [.long (t0)] σ 0 0 (some (.long o.1)) o.2 := by
  unfold f_X12_waysOf_24 at h
  obtain rfl := Option.some.inj h
  exact w_lreturn dX12_waysOf_24 rfl (Nat.le_of_ble_eq_true rfl) (Nat.le_of_ble_eq_true rfl)
set_option maxRecDepth 100000 in
set_option maxHeartbeats 4000000 in
theorem l_X12_waysOf_9   (σ : aSt) (o : Int64 × aSt) (h : f_X12_waysOf_9   σ = some o) : AW true m_X12_waysOf 9 [] [] σ 0 0 (some (.long o.1)) o.2 := by
  unfold f_X12_waysOf_9 at h
  refine w_lconst (v := 0) dX12_waysOf_9 (by decide) ?_
  refine w_goto 24 dX12_waysOf_10 (by decide) ?_
  exact l_X12_waysOf_24 _ _ _ h
set_option maxRecDepth 100000 in
set_option maxHeartbeats 4000000 in
theorem c_X12_waysOf (p1 : Int32) (p2 : Int32) (σ : aSt) (o : Int64 × aSt) (h : f_X12_waysOf p1 p2 σ = some o) : AM true m_X12_waysOf [va_rf (some (57)), .int (p1), .int (p2)] σ (some (.long o.1)) o.2 := by
  refine AM_of2 (lv := [(0, va_rf (some (57))), (1, Value.int (p1)), (2, Value.int (p2))]) (by decide +kernel) rfl (Nat.le_of_ble_eq_true rfl) ?_
  unfold f_X12_waysOf at h
  refine w_iload_n 2 dX12_waysOf_0 rfl rfl ?_
  refine w_if_lt 9 dX12_waysOf_1 (by decide) (fun c1 => ?_) (fun c1 => ?_)
  · replace h := e_t c1 h
    refine w_sub [] rfl ?_
    exact l_X12_waysOf_9 _ _ h
  · replace h := e_f c1 h
    refine w_iload_n 2 dX12_waysOf_4 rfl rfl ?_
    refine w_iload_n 1 dX12_waysOf_5 rfl rfl ?_
    refine w_icmp_le 13 dX12_waysOf_6 (by decide) (fun c2 => ?_) (fun c2 => ?_)
    · replace h := e_t c2 h
      refine w_aload_n 0 ((some (57))) dX12_waysOf_13 rfl rfl ?_
      refine w_get (v := va_rf (some 82)) dX12_waysOf_14 fl_RX12_95 ⟨rfl, Or.inr ⟨rfl, by decide⟩⟩ (aFv_k rfl) ?_
      refine w_bipush (v := 41) dX12_waysOf_17 (by decide) ?_
      refine w_iload_n 1 dX12_waysOf_19 rfl rfl ?_
      refine w_imul dX12_waysOf_20 ?_
      refine w_iload_n 2 dX12_waysOf_21 rfl rfl ?_
      refine w_iadd dX12_waysOf_22 ?_
      replace h := e_grd h; obtain ⟨b3, h⟩ := h
      refine w_laload dX12_waysOf_23 ⟨rfl, Or.inr ⟨rfl, by decide⟩⟩ b3 ?_
      refine w_sub [] rfl ?_
      exact l_X12_waysOf_24 _ _ _ h
    · replace h := e_f c2 h
      refine w_sub [] rfl ?_
      exact l_X12_waysOf_9 _ _ h
theorem dX12_drift_0 : decode cX12_drift 0 = .ok (.aload_n 0, 1) := by decide +kernel
theorem dX12_drift_1 : decode cX12_drift 1 = .ok (.iconst 0, 1) := by decide +kernel
theorem dX12_drift_2 : decode cX12_drift 2 = .ok (.putfield 102, 3) := by decide +kernel
theorem dX12_drift_5 : decode cX12_drift 5 = .ok (.iload_n 1, 1) := by decide +kernel
theorem dX12_drift_6 : decode cX12_drift 6 = .ok (.i2l, 1) := by decide +kernel
theorem dX12_drift_7 : decode cX12_drift 7 = .ok (.lconst 0, 1) := by decide +kernel
theorem dX12_drift_8 : decode cX12_drift 8 = .ok (.ldc2_w 136, 3) := by decide +kernel
theorem dX12_drift_11 : decode cX12_drift 11 = .ok (.invokestatic 111, 3) := by decide +kernel
theorem dX12_drift_14 : decode cX12_drift 14 = .ok (.ifCond .eq 55, 3) := by decide +kernel
theorem dX12_drift_17 : decode cX12_drift 17 = .ok (.iload_n 2, 1) := by decide +kernel
theorem dX12_drift_18 : decode cX12_drift 18 = .ok (.i2l, 1) := by decide +kernel
theorem dX12_drift_19 : decode cX12_drift 19 = .ok (.lconst 0, 1) := by decide +kernel
theorem dX12_drift_20 : decode cX12_drift 20 = .ok (.ldc2_w 337, 3) := by decide +kernel
theorem dX12_drift_23 : decode cX12_drift 23 = .ok (.invokestatic 111, 3) := by decide +kernel
theorem dX12_drift_26 : decode cX12_drift 26 = .ok (.ifCond .eq 43, 3) := by decide +kernel
theorem dX12_drift_29 : decode cX12_drift 29 = .ok (.iload_n 3, 1) := by decide +kernel
theorem dX12_drift_30 : decode cX12_drift 30 = .ok (.i2l, 1) := by decide +kernel
theorem dX12_drift_31 : decode cX12_drift 31 = .ok (.iload_n 2, 1) := by decide +kernel
theorem dX12_drift_32 : decode cX12_drift 32 = .ok (.i2l, 1) := by decide +kernel
theorem dX12_drift_33 : decode cX12_drift 33 = .ok (.ldc2_w 337, 3) := by decide +kernel
theorem dX12_drift_36 : decode cX12_drift 36 = .ok (.invokestatic 111, 3) := by decide +kernel
theorem dX12_drift_39 : decode cX12_drift 39 = .ok (.ifCond .eq 30, 3) := by decide +kernel
theorem dX12_drift_42 : decode cX12_drift 42 = .ok (.iload 4, 2) := by decide +kernel
theorem dX12_drift_44 : decode cX12_drift 44 = .ok (.i2l, 1) := by decide +kernel
theorem dX12_drift_45 : decode cX12_drift 45 = .ok (.iload_n 3, 1) := by decide +kernel
theorem dX12_drift_46 : decode cX12_drift 46 = .ok (.i2l, 1) := by decide +kernel
theorem dX12_drift_47 : decode cX12_drift 47 = .ok (.ldc2_w 337, 3) := by decide +kernel
theorem dX12_drift_50 : decode cX12_drift 50 = .ok (.invokestatic 111, 3) := by decide +kernel
theorem dX12_drift_53 : decode cX12_drift 53 = .ok (.ifCond .eq 16, 3) := by decide +kernel
theorem dX12_drift_56 : decode cX12_drift 56 = .ok (.iload 5, 2) := by decide +kernel
theorem dX12_drift_58 : decode cX12_drift 58 = .ok (.i2l, 1) := by decide +kernel
theorem dX12_drift_59 : decode cX12_drift 59 = .ok (.lconst 0, 1) := by decide +kernel
theorem dX12_drift_60 : decode cX12_drift 60 = .ok (.ldc2_w 339, 3) := by decide +kernel
theorem dX12_drift_63 : decode cX12_drift 63 = .ok (.invokestatic 111, 3) := by decide +kernel
theorem dX12_drift_66 : decode cX12_drift 66 = .ok (.ifCond .ne 7, 3) := by decide +kernel
theorem dX12_drift_69 : decode cX12_drift 69 = .ok (.ldc2_w 322, 3) := by decide +kernel
theorem dX12_drift_72 : decode cX12_drift 72 = .ok (.lreturn, 1) := by decide +kernel
theorem dX12_drift_73 : decode cX12_drift 73 = .ok (.iconst 0, 1) := by decide +kernel
theorem dX12_drift_74 : decode cX12_drift 74 = .ok (.istore 6, 2) := by decide +kernel
theorem dX12_drift_76 : decode cX12_drift 76 = .ok (.iconst 0, 1) := by decide +kernel
theorem dX12_drift_77 : decode cX12_drift 77 = .ok (.istore 7, 2) := by decide +kernel
theorem dX12_drift_79 : decode cX12_drift 79 = .ok (.iconst 0, 1) := by decide +kernel
theorem dX12_drift_80 : decode cX12_drift 80 = .ok (.istore 8, 2) := by decide +kernel
theorem dX12_drift_82 : decode cX12_drift 82 = .ok (.iconst 0, 1) := by decide +kernel
theorem dX12_drift_83 : decode cX12_drift 83 = .ok (.istore 9, 2) := by decide +kernel
theorem dX12_drift_85 : decode cX12_drift 85 = .ok (.iconst 0, 1) := by decide +kernel
theorem dX12_drift_86 : decode cX12_drift 86 = .ok (.istore 10, 2) := by decide +kernel
theorem dX12_drift_88 : decode cX12_drift 88 = .ok (.iload 10, 2) := by decide +kernel
theorem dX12_drift_90 : decode cX12_drift 90 = .ok (.aload_n 0, 1) := by decide +kernel
theorem dX12_drift_91 : decode cX12_drift 91 = .ok (.getfield 127, 3) := by decide +kernel
theorem dX12_drift_94 : decode cX12_drift 94 = .ok (.if_icmp .ge 105, 3) := by decide +kernel
theorem dX12_drift_97 : decode cX12_drift 97 = .ok (.aload_n 0, 1) := by decide +kernel
theorem dX12_drift_98 : decode cX12_drift 98 = .ok (.getfield 22, 3) := by decide +kernel
theorem dX12_drift_101 : decode cX12_drift 101 = .ok (.iload 10, 2) := by decide +kernel
theorem dX12_drift_103 : decode cX12_drift 103 = .ok (.iaload, 1) := by decide +kernel
theorem dX12_drift_104 : decode cX12_drift 104 = .ok (.iload_n 2, 1) := by decide +kernel
theorem dX12_drift_105 : decode cX12_drift 105 = .ok (.if_icmp .lt 41, 3) := by decide +kernel
theorem dX12_drift_108 : decode cX12_drift 108 = .ok (.aload_n 0, 1) := by decide +kernel
theorem dX12_drift_109 : decode cX12_drift 109 = .ok (.getfield 22, 3) := by decide +kernel
theorem dX12_drift_112 : decode cX12_drift 112 = .ok (.iload 10, 2) := by decide +kernel
theorem dX12_drift_114 : decode cX12_drift 114 = .ok (.iaload, 1) := by decide +kernel
theorem dX12_drift_115 : decode cX12_drift 115 = .ok (.iload_n 3, 1) := by decide +kernel
theorem dX12_drift_116 : decode cX12_drift 116 = .ok (.if_icmp .ge 30, 3) := by decide +kernel
theorem dX12_drift_119 : decode cX12_drift 119 = .ok (.iinc 6 1, 3) := by decide +kernel
theorem dX12_drift_122 : decode cX12_drift 122 = .ok (.iload 7, 2) := by decide +kernel
theorem dX12_drift_124 : decode cX12_drift 124 = .ok (.aload_n 0, 1) := by decide +kernel
theorem dX12_drift_125 : decode cX12_drift 125 = .ok (.getfield 34, 3) := by decide +kernel
theorem dX12_drift_128 : decode cX12_drift 128 = .ok (.iload 10, 2) := by decide +kernel
theorem dX12_drift_130 : decode cX12_drift 130 = .ok (.iaload, 1) := by decide +kernel
theorem dX12_drift_131 : decode cX12_drift 131 = .ok (.iload_n 1, 1) := by decide +kernel
theorem dX12_drift_132 : decode cX12_drift 132 = .ok (.if_icmp .ne 7, 3) := by decide +kernel
theorem dX12_drift_135 : decode cX12_drift 135 = .ok (.iconst 1, 1) := by decide +kernel
theorem dX12_drift_136 : decode cX12_drift 136 = .ok (.goto 4, 3) := by decide +kernel
theorem dX12_drift_139 : decode cX12_drift 139 = .ok (.iconst 0, 1) := by decide +kernel
theorem dX12_drift_140 : decode cX12_drift 140 = .ok (.iadd, 1) := by decide +kernel
theorem dX12_drift_141 : decode cX12_drift 141 = .ok (.istore 7, 2) := by decide +kernel
theorem dX12_drift_143 : decode cX12_drift 143 = .ok (.goto 50, 3) := by decide +kernel
theorem dX12_drift_146 : decode cX12_drift 146 = .ok (.aload_n 0, 1) := by decide +kernel
theorem dX12_drift_147 : decode cX12_drift 147 = .ok (.getfield 22, 3) := by decide +kernel
theorem dX12_drift_150 : decode cX12_drift 150 = .ok (.iload 10, 2) := by decide +kernel
theorem dX12_drift_152 : decode cX12_drift 152 = .ok (.iaload, 1) := by decide +kernel
theorem dX12_drift_153 : decode cX12_drift 153 = .ok (.iload_n 3, 1) := by decide +kernel
theorem dX12_drift_154 : decode cX12_drift 154 = .ok (.if_icmp .lt 39, 3) := by decide +kernel
theorem dX12_drift_157 : decode cX12_drift 157 = .ok (.aload_n 0, 1) := by decide +kernel
theorem dX12_drift_158 : decode cX12_drift 158 = .ok (.getfield 22, 3) := by decide +kernel
theorem dX12_drift_161 : decode cX12_drift 161 = .ok (.iload 10, 2) := by decide +kernel
theorem dX12_drift_163 : decode cX12_drift 163 = .ok (.iaload, 1) := by decide +kernel
theorem dX12_drift_164 : decode cX12_drift 164 = .ok (.iload 4, 2) := by decide +kernel
theorem dX12_drift_166 : decode cX12_drift 166 = .ok (.if_icmp .ge 27, 3) := by decide +kernel
theorem dX12_drift_169 : decode cX12_drift 169 = .ok (.iinc 8 1, 3) := by decide +kernel
theorem dX12_drift_172 : decode cX12_drift 172 = .ok (.iload 9, 2) := by decide +kernel
theorem dX12_drift_174 : decode cX12_drift 174 = .ok (.aload_n 0, 1) := by decide +kernel
theorem dX12_drift_175 : decode cX12_drift 175 = .ok (.getfield 34, 3) := by decide +kernel
theorem dX12_drift_178 : decode cX12_drift 178 = .ok (.iload 10, 2) := by decide +kernel
theorem dX12_drift_180 : decode cX12_drift 180 = .ok (.iaload, 1) := by decide +kernel
theorem dX12_drift_181 : decode cX12_drift 181 = .ok (.iload_n 1, 1) := by decide +kernel
theorem dX12_drift_182 : decode cX12_drift 182 = .ok (.if_icmp .ne 7, 3) := by decide +kernel
theorem dX12_drift_185 : decode cX12_drift 185 = .ok (.iconst 1, 1) := by decide +kernel
theorem dX12_drift_186 : decode cX12_drift 186 = .ok (.goto 4, 3) := by decide +kernel
theorem dX12_drift_189 : decode cX12_drift 189 = .ok (.iconst 0, 1) := by decide +kernel
theorem dX12_drift_190 : decode cX12_drift 190 = .ok (.iadd, 1) := by decide +kernel
theorem dX12_drift_191 : decode cX12_drift 191 = .ok (.istore 9, 2) := by decide +kernel
theorem dX12_drift_193 : decode cX12_drift 193 = .ok (.iinc 10 1, 3) := by decide +kernel
theorem dX12_drift_196 : decode cX12_drift 196 = .ok (.goto (-108), 3) := by decide +kernel
theorem dX12_drift_199 : decode cX12_drift 199 = .ok (.iload 6, 2) := by decide +kernel
theorem dX12_drift_201 : decode cX12_drift 201 = .ok (.iload 8, 2) := by decide +kernel
theorem dX12_drift_203 : decode cX12_drift 203 = .ok (.iadd, 1) := by decide +kernel
theorem dX12_drift_204 : decode cX12_drift 204 = .ok (.bipush 40, 2) := by decide +kernel
theorem dX12_drift_206 : decode cX12_drift 206 = .ok (.if_icmp .le 7, 3) := by decide +kernel
theorem dX12_drift_209 : decode cX12_drift 209 = .ok (.ldc2_w 341, 3) := by decide +kernel
theorem dX12_drift_212 : decode cX12_drift 212 = .ok (.lreturn, 1) := by decide +kernel
theorem dX12_drift_213 : decode cX12_drift 213 = .ok (.iconst 0, 1) := by decide +kernel
theorem dX12_drift_214 : decode cX12_drift 214 = .ok (.istore 10, 2) := by decide +kernel
theorem dX12_drift_216 : decode cX12_drift 216 = .ok (.iload 10, 2) := by decide +kernel
theorem dX12_drift_218 : decode cX12_drift 218 = .ok (.bipush 41, 2) := by decide +kernel
theorem dX12_drift_220 : decode cX12_drift 220 = .ok (.if_icmp .ge 87, 3) := by decide +kernel
theorem dX12_drift_223 : decode cX12_drift 223 = .ok (.iconst 0, 1) := by decide +kernel
theorem dX12_drift_224 : decode cX12_drift 224 = .ok (.istore 11, 2) := by decide +kernel
theorem dX12_drift_226 : decode cX12_drift 226 = .ok (.iload 11, 2) := by decide +kernel
theorem dX12_drift_228 : decode cX12_drift 228 = .ok (.iload 10, 2) := by decide +kernel
theorem dX12_drift_230 : decode cX12_drift 230 = .ok (.if_icmp .gt 71, 3) := by decide +kernel
theorem dX12_drift_233 : decode cX12_drift 233 = .ok (.aload_n 0, 1) := by decide +kernel
theorem dX12_drift_234 : decode cX12_drift 234 = .ok (.getfield 95, 3) := by decide +kernel
theorem dX12_drift_237 : decode cX12_drift 237 = .ok (.bipush 41, 2) := by decide +kernel
theorem dX12_drift_239 : decode cX12_drift 239 = .ok (.iload 10, 2) := by decide +kernel
theorem dX12_drift_241 : decode cX12_drift 241 = .ok (.imul, 1) := by decide +kernel
theorem dX12_drift_242 : decode cX12_drift 242 = .ok (.iload 11, 2) := by decide +kernel
theorem dX12_drift_244 : decode cX12_drift 244 = .ok (.iadd, 1) := by decide +kernel
theorem dX12_drift_245 : decode cX12_drift 245 = .ok (.iload 11, 2) := by decide +kernel
theorem dX12_drift_247 : decode cX12_drift 247 = .ok (.ifCond .eq 10, 3) := by decide +kernel
theorem dX12_drift_250 : decode cX12_drift 250 = .ok (.iload 11, 2) := by decide +kernel
theorem dX12_drift_252 : decode cX12_drift 252 = .ok (.iload 10, 2) := by decide +kernel
theorem dX12_drift_254 : decode cX12_drift 254 = .ok (.if_icmp .ne 7, 3) := by decide +kernel
theorem dX12_drift_257 : decode cX12_drift 257 = .ok (.lconst 1, 1) := by decide +kernel
theorem dX12_drift_258 : decode cX12_drift 258 = .ok (.goto 36, 3) := by decide +kernel
theorem dX12_drift_261 : decode cX12_drift 261 = .ok (.aload_n 0, 1) := by decide +kernel
theorem dX12_drift_262 : decode cX12_drift 262 = .ok (.getfield 95, 3) := by decide +kernel
theorem dX12_drift_265 : decode cX12_drift 265 = .ok (.bipush 41, 2) := by decide +kernel
theorem dX12_drift_267 : decode cX12_drift 267 = .ok (.iload 10, 2) := by decide +kernel
theorem dX12_drift_269 : decode cX12_drift 269 = .ok (.iconst 1, 1) := by decide +kernel
theorem dX12_drift_270 : decode cX12_drift 270 = .ok (.isub, 1) := by decide +kernel
theorem dX12_drift_271 : decode cX12_drift 271 = .ok (.imul, 1) := by decide +kernel
theorem dX12_drift_272 : decode cX12_drift 272 = .ok (.iload 11, 2) := by decide +kernel
theorem dX12_drift_274 : decode cX12_drift 274 = .ok (.iadd, 1) := by decide +kernel
theorem dX12_drift_275 : decode cX12_drift 275 = .ok (.iconst 1, 1) := by decide +kernel
theorem dX12_drift_276 : decode cX12_drift 276 = .ok (.isub, 1) := by decide +kernel
theorem dX12_drift_277 : decode cX12_drift 277 = .ok (.laload, 1) := by decide +kernel
theorem dX12_drift_278 : decode cX12_drift 278 = .ok (.aload_n 0, 1) := by decide +kernel
theorem dX12_drift_279 : decode cX12_drift 279 = .ok (.getfield 95, 3) := by decide +kernel
theorem dX12_drift_282 : decode cX12_drift 282 = .ok (.bipush 41, 2) := by decide +kernel
theorem dX12_drift_284 : decode cX12_drift 284 = .ok (.iload 10, 2) := by decide +kernel
theorem dX12_drift_286 : decode cX12_drift 286 = .ok (.iconst 1, 1) := by decide +kernel
theorem dX12_drift_287 : decode cX12_drift 287 = .ok (.isub, 1) := by decide +kernel
theorem dX12_drift_288 : decode cX12_drift 288 = .ok (.imul, 1) := by decide +kernel
theorem dX12_drift_289 : decode cX12_drift 289 = .ok (.iload 11, 2) := by decide +kernel
theorem dX12_drift_291 : decode cX12_drift 291 = .ok (.iadd, 1) := by decide +kernel
theorem dX12_drift_292 : decode cX12_drift 292 = .ok (.laload, 1) := by decide +kernel
theorem dX12_drift_293 : decode cX12_drift 293 = .ok (.ladd, 1) := by decide +kernel
theorem dX12_drift_294 : decode cX12_drift 294 = .ok (.lastore, 1) := by decide +kernel
theorem dX12_drift_295 : decode cX12_drift 295 = .ok (.iinc 11 1, 3) := by decide +kernel
theorem dX12_drift_298 : decode cX12_drift 298 = .ok (.goto (-72), 3) := by decide +kernel
theorem dX12_drift_301 : decode cX12_drift 301 = .ok (.iinc 10 1, 3) := by decide +kernel
theorem dX12_drift_304 : decode cX12_drift 304 = .ok (.goto (-88), 3) := by decide +kernel
theorem dX12_drift_307 : decode cX12_drift 307 = .ok (.iload 7, 2) := by decide +kernel
theorem dX12_drift_309 : decode cX12_drift 309 = .ok (.iload 9, 2) := by decide +kernel
theorem dX12_drift_311 : decode cX12_drift 311 = .ok (.iadd, 1) := by decide +kernel
theorem dX12_drift_312 : decode cX12_drift 312 = .ok (.istore 10, 2) := by decide +kernel
theorem dX12_drift_314 : decode cX12_drift 314 = .ok (.iload 7, 2) := by decide +kernel
theorem dX12_drift_316 : decode cX12_drift 316 = .ok (.iload 8, 2) := by decide +kernel
theorem dX12_drift_318 : decode cX12_drift 318 = .ok (.imul, 1) := by decide +kernel
theorem dX12_drift_319 : decode cX12_drift 319 = .ok (.iload 9, 2) := by decide +kernel
theorem dX12_drift_321 : decode cX12_drift 321 = .ok (.iload 6, 2) := by decide +kernel
theorem dX12_drift_323 : decode cX12_drift 323 = .ok (.imul, 1) := by decide +kernel
theorem dX12_drift_324 : decode cX12_drift 324 = .ok (.isub, 1) := by decide +kernel
theorem dX12_drift_325 : decode cX12_drift 325 = .ok (.istore 11, 2) := by decide +kernel
theorem dX12_drift_327 : decode cX12_drift 327 = .ok (.iload 11, 2) := by decide +kernel
theorem dX12_drift_329 : decode cX12_drift 329 = .ok (.ifCond .ge 9, 3) := by decide +kernel
theorem dX12_drift_332 : decode cX12_drift 332 = .ok (.iload 11, 2) := by decide +kernel
theorem dX12_drift_334 : decode cX12_drift 334 = .ok (.ineg, 1) := by decide +kernel
theorem dX12_drift_335 : decode cX12_drift 335 = .ok (.goto 5, 3) := by decide +kernel
theorem dX12_drift_338 : decode cX12_drift 338 = .ok (.iload 11, 2) := by decide +kernel
theorem dX12_drift_340 : decode cX12_drift 340 = .ok (.istore 11, 2) := by decide +kernel
theorem dX12_drift_342 : decode cX12_drift 342 = .ok (.lconst 0, 1) := by decide +kernel
theorem dX12_drift_343 : decode cX12_drift 343 = .ok (.lstore 12, 2) := by decide +kernel
theorem dX12_drift_345 : decode cX12_drift 345 = .ok (.iconst 0, 1) := by decide +kernel
theorem dX12_drift_346 : decode cX12_drift 346 = .ok (.istore 14, 2) := by decide +kernel
theorem dX12_drift_348 : decode cX12_drift 348 = .ok (.iload 14, 2) := by decide +kernel
theorem dX12_drift_350 : decode cX12_drift 350 = .ok (.iload 10, 2) := by decide +kernel
theorem dX12_drift_352 : decode cX12_drift 352 = .ok (.if_icmp .gt 82, 3) := by decide +kernel
theorem dX12_drift_355 : decode cX12_drift 355 = .ok (.iload 14, 2) := by decide +kernel
theorem dX12_drift_357 : decode cX12_drift 357 = .ok (.iload 8, 2) := by decide +kernel
theorem dX12_drift_359 : decode cX12_drift 359 = .ok (.imul, 1) := by decide +kernel
theorem dX12_drift_360 : decode cX12_drift 360 = .ok (.iload 10, 2) := by decide +kernel
theorem dX12_drift_362 : decode cX12_drift 362 = .ok (.iload 14, 2) := by decide +kernel
theorem dX12_drift_364 : decode cX12_drift 364 = .ok (.isub, 1) := by decide +kernel
theorem dX12_drift_365 : decode cX12_drift 365 = .ok (.iload 6, 2) := by decide +kernel
theorem dX12_drift_367 : decode cX12_drift 367 = .ok (.imul, 1) := by decide +kernel
theorem dX12_drift_368 : decode cX12_drift 368 = .ok (.isub, 1) := by decide +kernel
theorem dX12_drift_369 : decode cX12_drift 369 = .ok (.istore 15, 2) := by decide +kernel
theorem dX12_drift_371 : decode cX12_drift 371 = .ok (.iload 15, 2) := by decide +kernel
theorem dX12_drift_373 : decode cX12_drift 373 = .ok (.ifCond .ge 9, 3) := by decide +kernel
theorem dX12_drift_376 : decode cX12_drift 376 = .ok (.iload 15, 2) := by decide +kernel
theorem dX12_drift_378 : decode cX12_drift 378 = .ok (.ineg, 1) := by decide +kernel
theorem dX12_drift_379 : decode cX12_drift 379 = .ok (.goto 5, 3) := by decide +kernel
theorem dX12_drift_382 : decode cX12_drift 382 = .ok (.iload 15, 2) := by decide +kernel
theorem dX12_drift_384 : decode cX12_drift 384 = .ok (.istore 15, 2) := by decide +kernel
theorem dX12_drift_386 : decode cX12_drift 386 = .ok (.lload 12, 2) := by decide +kernel
theorem dX12_drift_388 : decode cX12_drift 388 = .ok (.iload 15, 2) := by decide +kernel
theorem dX12_drift_390 : decode cX12_drift 390 = .ok (.iload 11, 2) := by decide +kernel
theorem dX12_drift_392 : decode cX12_drift 392 = .ok (.if_icmp .lt 32, 3) := by decide +kernel
theorem dX12_drift_395 : decode cX12_drift 395 = .ok (.aload_n 0, 1) := by decide +kernel
theorem dX12_drift_396 : decode cX12_drift 396 = .ok (.iload 10, 2) := by decide +kernel
theorem dX12_drift_398 : decode cX12_drift 398 = .ok (.iload 14, 2) := by decide +kernel
theorem dX12_drift_400 : decode cX12_drift 400 = .ok (.invokevirtual 343, 3) := by decide +kernel
theorem dX12_drift_403 : decode cX12_drift 403 = .ok (.aload_n 0, 1) := by decide +kernel
theorem dX12_drift_404 : decode cX12_drift 404 = .ok (.iload 6, 2) := by decide +kernel
theorem dX12_drift_406 : decode cX12_drift 406 = .ok (.iload 8, 2) := by decide +kernel
theorem dX12_drift_408 : decode cX12_drift 408 = .ok (.iadd, 1) := by decide +kernel
theorem dX12_drift_409 : decode cX12_drift 409 = .ok (.iload 10, 2) := by decide +kernel
theorem dX12_drift_411 : decode cX12_drift 411 = .ok (.isub, 1) := by decide +kernel
theorem dX12_drift_412 : decode cX12_drift 412 = .ok (.iload 6, 2) := by decide +kernel
theorem dX12_drift_414 : decode cX12_drift 414 = .ok (.iload 14, 2) := by decide +kernel
theorem dX12_drift_416 : decode cX12_drift 416 = .ok (.isub, 1) := by decide +kernel
theorem dX12_drift_417 : decode cX12_drift 417 = .ok (.invokevirtual 343, 3) := by decide +kernel
theorem dX12_drift_420 : decode cX12_drift 420 = .ok (.lmul, 1) := by decide +kernel
theorem dX12_drift_421 : decode cX12_drift 421 = .ok (.goto 4, 3) := by decide +kernel
theorem dX12_drift_424 : decode cX12_drift 424 = .ok (.lconst 0, 1) := by decide +kernel
theorem dX12_drift_425 : decode cX12_drift 425 = .ok (.ladd, 1) := by decide +kernel
theorem dX12_drift_426 : decode cX12_drift 426 = .ok (.lstore 12, 2) := by decide +kernel
theorem dX12_drift_428 : decode cX12_drift 428 = .ok (.iinc 14 1, 3) := by decide +kernel
theorem dX12_drift_431 : decode cX12_drift 431 = .ok (.goto (-83), 3) := by decide +kernel
theorem dX12_drift_434 : decode cX12_drift 434 = .ok (.iload 5, 2) := by decide +kernel
theorem dX12_drift_436 : decode cX12_drift 436 = .ok (.ifCond .ne 8, 3) := by decide +kernel
theorem dX12_drift_439 : decode cX12_drift 439 = .ok (.lload 12, 2) := by decide +kernel
theorem dX12_drift_441 : decode cX12_drift 441 = .ok (.goto 62, 3) := by decide +kernel
theorem dX12_drift_444 : decode cX12_drift 444 = .ok (.iload 5, 2) := by decide +kernel
theorem dX12_drift_446 : decode cX12_drift 446 = .ok (.iconst 1, 1) := by decide +kernel
theorem dX12_drift_447 : decode cX12_drift 447 = .ok (.if_icmp .ne 17, 3) := by decide +kernel
theorem dX12_drift_450 : decode cX12_drift 450 = .ok (.aload_n 0, 1) := by decide +kernel
theorem dX12_drift_451 : decode cX12_drift 451 = .ok (.iload 6, 2) := by decide +kernel
theorem dX12_drift_453 : decode cX12_drift 453 = .ok (.iload 8, 2) := by decide +kernel
theorem dX12_drift_455 : decode cX12_drift 455 = .ok (.iadd, 1) := by decide +kernel
theorem dX12_drift_456 : decode cX12_drift 456 = .ok (.iload 6, 2) := by decide +kernel
theorem dX12_drift_458 : decode cX12_drift 458 = .ok (.invokevirtual 343, 3) := by decide +kernel
theorem dX12_drift_461 : decode cX12_drift 461 = .ok (.goto 42, 3) := by decide +kernel
theorem dX12_drift_464 : decode cX12_drift 464 = .ok (.iload 5, 2) := by decide +kernel
theorem dX12_drift_466 : decode cX12_drift 466 = .ok (.iconst 2, 1) := by decide +kernel
theorem dX12_drift_467 : decode cX12_drift 467 = .ok (.if_icmp .ne 9, 3) := by decide +kernel
theorem dX12_drift_470 : decode cX12_drift 470 = .ok (.iload 6, 2) := by decide +kernel
theorem dX12_drift_472 : decode cX12_drift 472 = .ok (.i2l, 1) := by decide +kernel
theorem dX12_drift_473 : decode cX12_drift 473 = .ok (.goto 30, 3) := by decide +kernel
theorem dX12_drift_476 : decode cX12_drift 476 = .ok (.iload 5, 2) := by decide +kernel
theorem dX12_drift_478 : decode cX12_drift 478 = .ok (.iconst 3, 1) := by decide +kernel
theorem dX12_drift_479 : decode cX12_drift 479 = .ok (.if_icmp .ne 9, 3) := by decide +kernel
theorem dX12_drift_482 : decode cX12_drift 482 = .ok (.iload 7, 2) := by decide +kernel
theorem dX12_drift_484 : decode cX12_drift 484 = .ok (.i2l, 1) := by decide +kernel
theorem dX12_drift_485 : decode cX12_drift 485 = .ok (.goto 18, 3) := by decide +kernel
theorem dX12_drift_488 : decode cX12_drift 488 = .ok (.iload 5, 2) := by decide +kernel
theorem dX12_drift_490 : decode cX12_drift 490 = .ok (.iconst 4, 1) := by decide +kernel
theorem dX12_drift_491 : decode cX12_drift 491 = .ok (.if_icmp .ne 9, 3) := by decide +kernel
theorem dX12_drift_494 : decode cX12_drift 494 = .ok (.iload 8, 2) := by decide +kernel
theorem dX12_drift_496 : decode cX12_drift 496 = .ok (.i2l, 1) := by decide +kernel
theorem dX12_drift_497 : decode cX12_drift 497 = .ok (.goto 6, 3) := by decide +kernel
theorem dX12_drift_500 : decode cX12_drift 500 = .ok (.iload 9, 2) := by decide +kernel
theorem dX12_drift_502 : decode cX12_drift 502 = .ok (.i2l, 1) := by decide +kernel
theorem dX12_drift_503 : decode cX12_drift 503 = .ok (.lreturn, 1) := by decide +kernel
theorem kd_X12_drift : aKd m_X12_drift 5 := ⟨wd_46_18, wd_1_5, ⟨by decide +kernel, by decide +kernel, by decide +kernel⟩⟩
set_option maxRecDepth 100000 in
set_option maxHeartbeats 4000000 in
theorem l_X12_drift_69   (σ : aSt) (o : Int64 × aSt) (h : f_X12_drift_69   σ = some o) : AW true m_X12_drift 69 [] [] σ 0 0 (some (.long o.1)) o.2 := by
  unfold f_X12_drift_69 at h
  refine w_ldc2 (v := (-1000001)) dX12_drift_69 wd_41_17 ?_
  obtain rfl := Option.some.inj h
  exact w_lreturn dX12_drift_72 rfl (Nat.le_of_ble_eq_true rfl) (Nat.le_of_ble_eq_true rfl)
set_option maxRecDepth 100000 in
set_option maxHeartbeats 4000000 in
theorem l_X12_drift_193 (rec88 : Int32 → Int32 → Int32 → Int32 → Int32 → Int32 → Int32 → Int32 → Int32 → Int32 → aSt → Option (Int64 × aSt)) (hrec88 : ∀ (x1 : Int32) (x2 : Int32) (x3 : Int32) (x4 : Int32) (x5 : Int32) (x6 : Int32) (x7 : Int32) (x8 : Int32) (x9 : Int32) (x10 : Int32) (σ : aSt) (o : Int64 × aSt), rec88 x1 x2 x3 x4 x5 x6 x7 x8 x9 x10 σ = some o → AW true m_X12_drift 88 [(0, va_rf (some (57))), (1, Value.int (x1)), (2, Value.int (x2)), (3, Value.int (x3)), (4, Value.int (x4)), (5, Value.int (x5)), (6, Value.int (x6)), (7, Value.int (x7)), (8, Value.int (x8)), (9, Value.int (x9)), (10, Value.int (x10))] [] σ 0 0 (some (.long o.1)) o.2) (x1 : Int32) (x2 : Int32) (x3 : Int32) (x4 : Int32) (x5 : Int32) (x6 : Int32) (x7 : Int32) (x8 : Int32) (x9 : Int32) (x10 : Int32) (σ : aSt) (o : Int64 × aSt) (h : f_X12_drift_193 rec88 x1 x2 x3 x4 x5 x6 x7 x8 x9 x10 σ = some o) : AW true m_X12_drift 193 [(0, va_rf (some (57))), (1, Value.int (x1)), (2, Value.int (x2)), (3, Value.int (x3)), (4, Value.int (x4)), (5, Value.int (x5)), (6, Value.int (x6)), (7, Value.int (x7)), (8, Value.int (x8)), (9, Value.int (x9)), (10, Value.int (x10))] [] σ 0 0 (some (.long o.1)) o.2 := by
  unfold f_X12_drift_193 at h
  refine w_iinc (q := 10) (v := x10 + 1) dX12_drift_193 rfl rfl (by decide) rfl ?_
  refine w_goto 88 dX12_drift_196 (by decide) ?_
  refine w_sub [1, 2, 3, 4, 5, 6, 7, 8, 9, 10, 0] rfl ?_
  exact hrec88 _ _ _ _ _ _ _ _ _ _ _ _ h
set_option maxRecDepth 100000 in
set_option maxHeartbeats 4000000 in
theorem l_X12_drift_140 (rec88 : Int32 → Int32 → Int32 → Int32 → Int32 → Int32 → Int32 → Int32 → Int32 → Int32 → aSt → Option (Int64 × aSt)) (hrec88 : ∀ (x1 : Int32) (x2 : Int32) (x3 : Int32) (x4 : Int32) (x5 : Int32) (x6 : Int32) (x7 : Int32) (x8 : Int32) (x9 : Int32) (x10 : Int32) (σ : aSt) (o : Int64 × aSt), rec88 x1 x2 x3 x4 x5 x6 x7 x8 x9 x10 σ = some o → AW true m_X12_drift 88 [(0, va_rf (some (57))), (1, Value.int (x1)), (2, Value.int (x2)), (3, Value.int (x3)), (4, Value.int (x4)), (5, Value.int (x5)), (6, Value.int (x6)), (7, Value.int (x7)), (8, Value.int (x8)), (9, Value.int (x9)), (10, Value.int (x10))] [] σ 0 0 (some (.long o.1)) o.2) (x1 : Int32) (x2 : Int32) (x3 : Int32) (x4 : Int32) (x5 : Int32) (x6 : Int32) (x8 : Int32) (x9 : Int32) (x10 : Int32) (t0 : Int32) (t1 : Int32) (σ : aSt) (o : Int64 × aSt) (h : f_X12_drift_140 rec88 x1 x2 x3 x4 x5 x6 x8 x9 x10 t0 t1 σ = some o) : AW true m_X12_drift 140 [(0, va_rf (some (57))), (1, Value.int (x1)), (2, Value.int (x2)), (3, Value.int (x3)), (4, Value.int (x4)), (5, Value.int (x5)), (6, Value.int (x6)), (8, Value.int (x8)), (9, Value.int (x9)), (10, Value.int (x10))] [.int (t1), .int (t0)] σ 0 0 (some (.long o.1)) o.2 := by
  unfold f_X12_drift_140 at h
  refine w_iadd dX12_drift_140 ?_
  refine w_istore dX12_drift_141 (by decide) rfl ?_
  refine w_goto 193 dX12_drift_143 (by decide) ?_
  refine w_sub [1, 2, 3, 4, 5, 6, 7, 0, 8, 9, 10] rfl ?_
  exact l_X12_drift_193 rec88 hrec88 _ _ _ _ _ _ _ _ _ _ _ _ h
set_option maxRecDepth 100000 in
set_option maxHeartbeats 4000000 in
theorem l_X12_drift_190 (rec88 : Int32 → Int32 → Int32 → Int32 → Int32 → Int32 → Int32 → Int32 → Int32 → Int32 → aSt → Option (Int64 × aSt)) (hrec88 : ∀ (x1 : Int32) (x2 : Int32) (x3 : Int32) (x4 : Int32) (x5 : Int32) (x6 : Int32) (x7 : Int32) (x8 : Int32) (x9 : Int32) (x10 : Int32) (σ : aSt) (o : Int64 × aSt), rec88 x1 x2 x3 x4 x5 x6 x7 x8 x9 x10 σ = some o → AW true m_X12_drift 88 [(0, va_rf (some (57))), (1, Value.int (x1)), (2, Value.int (x2)), (3, Value.int (x3)), (4, Value.int (x4)), (5, Value.int (x5)), (6, Value.int (x6)), (7, Value.int (x7)), (8, Value.int (x8)), (9, Value.int (x9)), (10, Value.int (x10))] [] σ 0 0 (some (.long o.1)) o.2) (x1 : Int32) (x2 : Int32) (x3 : Int32) (x4 : Int32) (x5 : Int32) (x6 : Int32) (x7 : Int32) (x8 : Int32) (x10 : Int32) (t0 : Int32) (t1 : Int32) (σ : aSt) (o : Int64 × aSt) (h : f_X12_drift_190 rec88 x1 x2 x3 x4 x5 x6 x7 x8 x10 t0 t1 σ = some o) : AW true m_X12_drift 190 [(0, va_rf (some (57))), (1, Value.int (x1)), (2, Value.int (x2)), (3, Value.int (x3)), (4, Value.int (x4)), (5, Value.int (x5)), (6, Value.int (x6)), (7, Value.int (x7)), (8, Value.int (x8)), (10, Value.int (x10))] [.int (t1), .int (t0)] σ 0 0 (some (.long o.1)) o.2 := by
  unfold f_X12_drift_190 at h
  refine w_iadd dX12_drift_190 ?_
  refine w_istore dX12_drift_191 (by decide) rfl ?_
  refine w_sub [1, 2, 3, 4, 5, 6, 7, 8, 9, 0, 10] rfl ?_
  exact l_X12_drift_193 rec88 hrec88 _ _ _ _ _ _ _ _ _ _ _ _ h
set_option maxRecDepth 100000 in
set_option maxHeartbeats 4000000 in
theorem l_X12_drift_146 (rec88 : Int32 → Int32 → Int32 → Int32 → Int32 → Int32 → Int32 → Int32 → Int32 → Int32 → aSt → Option (Int64 × aSt)) (hrec88 : ∀ (x1 : Int32) (x2 : Int32) (x3 : Int32) (x4 : Int32) (x5 : Int32) (x6 : Int32) (x7 : Int32) (x8 : Int32) (x9 : Int32) (x10 : Int32) (σ : aSt) (o : Int64 × aSt), rec88 x1 x2 x3 x4 x5 x6 x7 x8 x9 x10 σ = some o → AW true m_X12_drift 88 [(0, va_rf (some (57))), (1, Value.int (x1)), (2, Value.int (x2)), (3, Value.int (x3)), (4, Value.int (x4)), (5, Value.int (x5)), (6, Value.int (x6)), (7, Value.int (x7)), (8, Value.int (x8)), (9, Value.int (x9)), (10, Value.int (x10))] [] σ 0 0 (some (.long o.1)) o.2) (x1 : Int32) (x2 : Int32) (x3 : Int32) (x4 : Int32) (x5 : Int32) (x6 : Int32) (x7 : Int32) (x8 : Int32) (x9 : Int32) (x10 : Int32) (σ : aSt) (o : Int64 × aSt) (h : f_X12_drift_146 rec88 x1 x2 x3 x4 x5 x6 x7 x8 x9 x10 σ = some o) : AW true m_X12_drift 146 [(0, va_rf (some (57))), (1, Value.int (x1)), (2, Value.int (x2)), (3, Value.int (x3)), (4, Value.int (x4)), (5, Value.int (x5)), (6, Value.int (x6)), (7, Value.int (x7)), (8, Value.int (x8)), (9, Value.int (x9)), (10, Value.int (x10))] [] σ 0 0 (some (.long o.1)) o.2 := by
  unfold f_X12_drift_146 at h
  refine w_aload_n 0 ((some (57))) dX12_drift_146 rfl rfl ?_
  refine w_get (v := va_rf (some 62)) dX12_drift_147 fl_RX12_22 ⟨rfl, Or.inr ⟨rfl, by decide⟩⟩ (aFv_k rfl) ?_
  refine w_iload 10 dX12_drift_150 rfl ?_
  replace h := e_grd h; obtain ⟨b38, h⟩ := h
  refine w_iaload dX12_drift_152 ⟨rfl, Or.inr ⟨rfl, by decide⟩⟩ b38 ?_
  refine w_iload_n 3 dX12_drift_153 rfl rfl ?_
  refine w_icmp_lt 193 dX12_drift_154 (by decide) (fun c39 => ?_) (fun c39 => ?_)
  · replace h := e_t c39 h
    exact l_X12_drift_193 rec88 hrec88 _ _ _ _ _ _ _ _ _ _ _ _ h
  · replace h := e_f c39 h
    refine w_aload_n 0 ((some (57))) dX12_drift_157 rfl rfl ?_
    refine w_get (v := va_rf (some 62)) dX12_drift_158 fl_RX12_22 ⟨rfl, Or.inr ⟨rfl, by decide⟩⟩ (aFv_k rfl) ?_
    refine w_iload 10 dX12_drift_161 rfl ?_
    replace h := e_grd h; obtain ⟨b40, h⟩ := h
    refine w_iaload dX12_drift_163 ⟨rfl, Or.inr ⟨rfl, by decide⟩⟩ b40 ?_
    refine w_iload 4 dX12_drift_164 rfl ?_
    refine w_icmp_ge 193 dX12_drift_166 (by decide) (fun c41 => ?_) (fun c41 => ?_)
    · replace h := e_t c41 h
      exact l_X12_drift_193 rec88 hrec88 _ _ _ _ _ _ _ _ _ _ _ _ h
    · replace h := e_f c41 h
      refine w_iinc (q := 8) (v := x8 + 1) dX12_drift_169 rfl rfl (by decide) rfl ?_
      refine w_iload 9 dX12_drift_172 rfl ?_
      refine w_aload_n 1 ((some (57))) dX12_drift_174 rfl rfl ?_
      refine w_get (v := va_rf (some 66)) dX12_drift_175 fl_RX12_34 ⟨rfl, Or.inr ⟨rfl, by decide⟩⟩ (aFv_k rfl) ?_
      refine w_iload 10 dX12_drift_178 rfl ?_
      replace h := e_grd h; obtain ⟨b42, h⟩ := h
      refine w_iaload dX12_drift_180 ⟨rfl, Or.inr ⟨rfl, by decide⟩⟩ b42 ?_
      refine w_iload_n 2 dX12_drift_181 rfl rfl ?_
      refine w_icmp_ne 189 dX12_drift_182 (by decide) (fun c43 => ?_) (fun c43 => ?_)
      · replace h := e_f c43 h
        refine w_iconst (v := 0) dX12_drift_189 (by decide) ?_
        refine w_sub [1, 2, 3, 4, 5, 6, 7, 8, 0, 10] rfl ?_
        exact l_X12_drift_190 rec88 hrec88 _ _ _ _ _ _ _ _ _ _ _ _ _ h
      · replace h := e_t c43 h
        refine w_iconst (v := 1) dX12_drift_185 (by decide) ?_
        refine w_goto 190 dX12_drift_186 (by decide) ?_
        refine w_sub [1, 2, 3, 4, 5, 6, 7, 8, 0, 10] rfl ?_
        exact l_X12_drift_190 rec88 hrec88 _ _ _ _ _ _ _ _ _ _ _ _ _ h
set_option maxRecDepth 100000 in
set_option maxHeartbeats 4000000 in
theorem l_X12_drift_294 (rec216 : Int32 → Int32 → Int32 → Int32 → Int32 → Int32 → aSt → Option (Int64 × aSt)) (hrec216 : ∀ (x5 : Int32) (x6 : Int32) (x7 : Int32) (x8 : Int32) (x9 : Int32) (x10 : Int32) (σ : aSt) (o : Int64 × aSt), rec216 x5 x6 x7 x8 x9 x10 σ = some o → AW true m_X12_drift 216 [(0, va_rf (some (57))), (5, Value.int (x5)), (6, Value.int (x6)), (7, Value.int (x7)), (8, Value.int (x8)), (9, Value.int (x9)), (10, Value.int (x10))] [] σ 0 0 (some (.long o.1)) o.2) (rec226 : Int32 → Int32 → Int32 → Int32 → Int32 → Int32 → Int32 → aSt → Option (Int64 × aSt)) (hrec226 : ∀ (x5 : Int32) (x6 : Int32) (x7 : Int32) (x8 : Int32) (x9 : Int32) (x10 : Int32) (x11 : Int32) (σ : aSt) (o : Int64 × aSt), rec226 x5 x6 x7 x8 x9 x10 x11 σ = some o → AW true m_X12_drift 226 [(0, va_rf (some (57))), (5, Value.int (x5)), (6, Value.int (x6)), (7, Value.int (x7)), (8, Value.int (x8)), (9, Value.int (x9)), (10, Value.int (x10)), (11, Value.int (x11))] [] σ 0 0 (some (.long o.1)) o.2) (x5 : Int32) (x6 : Int32) (x7 : Int32) (x8 : Int32) (x9 : Int32) (x10 : Int32) (x11 : Int32) (t1 : Int32) (t2 : Int64) (σ : aSt) (o : Int64 × aSt) (h : f_X12_drift_294 rec216 rec226 x5 x6 x7 x8 x9 x10 x11 t1 t2 σ = some o) : AW true m_X12_drift 294 [(0, va_rf (some (57))), (5, Value.int (x5)), (6, Value.int (x6)), (7, Value.int (x7)), (8, Value.int (x8)), (9, Value.int (x9)), (10, Value.int (x10)), (11, Value.int (x11))] [.long (t2), .int (t1), va_rf (some (82))] σ 0 0 (some (.long o.1)) o.2 := by
  unfold f_X12_drift_294 at h
  replace h := e_grd h; obtain ⟨b30, h⟩ := h
  refine w_lastore dX12_drift_294 ⟨rfl, Or.inr ⟨rfl, by decide⟩⟩ b30 ?_
  refine w_iinc (q := 7) (v := x11 + 1) dX12_drift_295 rfl rfl (by decide) rfl ?_
  refine w_goto 226 dX12_drift_298 (by decide) ?_
  refine w_sub [1, 2, 3, 4, 5, 6, 7, 0] rfl ?_
  exact hrec226 _ _ _ _ _ _ _ _ _ h
set_option maxRecDepth 100000 in
set_option maxHeartbeats 4000000 in
theorem l_X12_drift_257 (rec216 : Int32 → Int32 → Int32 → Int32 → Int32 → Int32 → aSt → Option (Int64 × aSt)) (hrec216 : ∀ (x5 : Int32) (x6 : Int32) (x7 : Int32) (x8 : Int32) (x9 : Int32) (x10 : Int32) (σ : aSt) (o : Int64 × aSt), rec216 x5 x6 x7 x8 x9 x10 σ = some o → AW true m_X12_drift 216 [(0, va_rf (some (57))), (5, Value.int (x5)), (6, Value.int (x6)), (7, Value.int (x7)), (8, Value.int (x8)), (9, Value.int (x9)), (10, Value.int (x10))] [] σ 0 0 (some (.long o.1)) o.2) (rec226 : Int32 → Int32 → Int32 → Int32 → Int32 → Int32 → Int32 → aSt → Option (Int64 × aSt)) (hrec226 : ∀ (x5 : Int32) (x6 : Int32) (x7 : Int32) (x8 : Int32) (x9 : Int32) (x10 : Int32) (x11 : Int32) (σ : aSt) (o : Int64 × aSt), rec226 x5 x6 x7 x8 x9 x10 x11 σ = some o → AW true m_X12_drift 226 [(0, va_rf (some (57))), (5, Value.int (x5)), (6, Value.int (x6)), (7, Value.int (x7)), (8, Value.int (x8)), (9, Value.int (x9)), (10, Value.int (x10)), (11, Value.int (x11))] [] σ 0 0 (some (.long o.1)) o.2) (x5 : Int32) (x6 : Int32) (x7 : Int32) (x8 : Int32) (x9 : Int32) (x10 : Int32) (x11 : Int32) (t1 : Int32) (σ : aSt) (o : Int64 × aSt) (h : f_X12_drift_257 rec216 rec226 x5 x6 x7 x8 x9 x10 x11 t1 σ = some o) : AW true m_X12_drift 257 [(0, va_rf (some (57))), (5, Value.int (x5)), (6, Value.int (x6)), (7, Value.int (x7)), (8, Value.int (x8)), (9, Value.int (x9)), (10, Value.int (x10)), (11, Value.int (x11))] [.int (t1), va_rf (some (82))] σ 0 0 (some (.long o.1)) o.2 := by
  unfold f_X12_drift_257 at h
  refine w_lconst (v := 1) dX12_drift_257 (by decide) ?_
  refine w_goto 294 dX12_drift_258 (by decide) ?_
  exact l_X12_drift_294 rec216 hrec216 rec226 hrec226 _ _ _ _ _ _ _ _ _ _ _ h
set_option maxRecDepth 100000 in
set_option maxHeartbeats 4000000 in
theorem l_X12_drift_226_b (rec216 : Int32 → Int32 → Int32 → Int32 → Int32 → Int32 → aSt → Option (Int64 × aSt)) (hrec216 : ∀ (x5 : Int32) (x6 : Int32) (x7 : Int32) (x8 : Int32) (x9 : Int32) (x10 : Int32) (σ : aSt) (o : Int64 × aSt), rec216 x5 x6 x7 x8 x9 x10 σ = some o → AW true m_X12_drift 216 [(0, va_rf (some (57))), (5, Value.int (x5)), (6, Value.int (x6)), (7, Value.int (x7)), (8, Value.int (x8)), (9, Value.int (x9)), (10, Value.int (x10))] [] σ 0 0 (some (.long o.1)) o.2) (rec226 : Int32 → Int32 → Int32 → Int32 → Int32 → Int32 → Int32 → aSt → Option (Int64 × aSt)) (hrec226 : ∀ (x5 : Int32) (x6 : Int32) (x7 : Int32) (x8 : Int32) (x9 : Int32) (x10 : Int32) (x11 : Int32) (σ : aSt) (o : Int64 × aSt), rec226 x5 x6 x7 x8 x9 x10 x11 σ = some o → AW true m_X12_drift 226 [(0, va_rf (some (57))), (5, Value.int (x5)), (6, Value.int (x6)), (7, Value.int (x7)), (8, Value.int (x8)), (9, Value.int (x9)), (10, Value.int (x10)), (11, Value.int (x11))] [] σ 0 0 (some (.long o.1)) o.2) (x5 : Int32) (x6 : Int32) (x7 : Int32) (x8 : Int32) (x9 : Int32) (x10 : Int32) (x11 : Int32) (σ : aSt) (o : Int64 × aSt) (h : f_X12_drift_226_b rec216 rec226 x5 x6 x7 x8 x9 x10 x11 σ = some o) : AW true m_X12_drift 226 [(0, va_rf (some (57))), (5, Value.int (x5)), (6, Value.int (x6)), (7, Value.int (x7)), (8, Value.int (x8)), (9, Value.int (x9)), (10, Value.int (x10)), (11, Value.int (x11))] [] σ 0 0 (some (.long o.1)) o.2 := by
  unfold f_X12_drift_226_b at h
  refine w_iload 7 dX12_drift_226 rfl ?_
  refine w_iload 6 dX12_drift_228 rfl ?_
  refine w_icmp_gt 301 dX12_drift_230 (by decide) (fun c31 => ?_) (fun c31 => ?_)
  · replace h := e_t c31 h
    refine w_iinc (q := 6) (v := x10 + 1) dX12_drift_301 rfl rfl (by decide) rfl ?_
    refine w_goto 216 dX12_drift_304 (by decide) ?_
    refine w_sub [1, 2, 3, 4, 5, 6, 0] rfl ?_
    exact hrec216 _ _ _ _ _ _ _ _ h
  · replace h := e_f c31 h
    refine w_aload_n 0 ((some (57))) dX12_drift_233 rfl rfl ?_
    refine w_get (v := va_rf (some 82)) dX12_drift_234 fl_RX12_95 ⟨rfl, Or.inr ⟨rfl, by decide⟩⟩ (aFv_k rfl) ?_
    refine w_bipush (v := 41) dX12_drift_237 (by decide) ?_
    refine w_iload 6 dX12_drift_239 rfl ?_
    refine w_imul dX12_drift_241 ?_
    refine w_iload 7 dX12_drift_242 rfl ?_
    refine w_iadd dX12_drift_244 ?_
    refine w_iload 7 dX12_drift_245 rfl ?_
    refine w_if_eq 257 dX12_drift_247 (by decide) (fun c32 => ?_) (fun c32 => ?_)
    · replace h := e_t c32 h
      exact l_X12_drift_257 rec216 hrec216 rec226 hrec226 _ _ _ _ _ _ _ _ _ _ h
    · replace h := e_f c32 h
      refine w_iload 7 dX12_drift_250 rfl ?_
      refine w_iload 6 dX12_drift_252 rfl ?_
      refine w_icmp_ne 261 dX12_drift_254 (by decide) (fun c33 => ?_) (fun c33 => ?_)
      · replace h := e_f c33 h
        refine w_aload_n 0 ((some (57))) dX12_drift_261 rfl rfl ?_
        refine w_get (v := va_rf (some 82)) dX12_drift_262 fl_RX12_95 ⟨rfl, Or.inr ⟨rfl, by decide⟩⟩ (aFv_k rfl) ?_
        refine w_bipush (v := 41) dX12_drift_265 (by decide) ?_
        refine w_iload 6 dX12_drift_267 rfl ?_
        refine w_iconst (v := 1) dX12_drift_269 (by decide) ?_
        refine w_isub dX12_drift_270 ?_
        refine w_imul dX12_drift_271 ?_
        refine w_iload 7 dX12_drift_272 rfl ?_
        refine w_iadd dX12_drift_274 ?_
        refine w_iconst (v := 1) dX12_drift_275 (by decide) ?_
        refine w_isub dX12_drift_276 ?_
        replace h := e_grd h; obtain ⟨b34, h⟩ := h
        refine w_laload dX12_drift_277 ⟨rfl, Or.inr ⟨rfl, by decide⟩⟩ b34 ?_
        refine w_aload_n 0 ((some (57))) dX12_drift_278 rfl rfl ?_
        refine w_get (v := va_rf (some 82)) dX12_drift_279 fl_RX12_95 ⟨rfl, Or.inr ⟨rfl, by decide⟩⟩ (aFv_k rfl) ?_
        refine w_bipush (v := 41) dX12_drift_282 (by decide) ?_
        refine w_iload 6 dX12_drift_284 rfl ?_
        refine w_iconst (v := 1) dX12_drift_286 (by decide) ?_
        refine w_isub dX12_drift_287 ?_
        refine w_imul dX12_drift_288 ?_
        refine w_iload 7 dX12_drift_289 rfl ?_
        refine w_iadd dX12_drift_291 ?_
        replace h := e_grd h; obtain ⟨b35, h⟩ := h
        refine w_laload dX12_drift_292 ⟨rfl, Or.inr ⟨rfl, by decide⟩⟩ b35 ?_
        refine w_ladd dX12_drift_293 ?_
        exact l_X12_drift_294 rec216 hrec216 rec226 hrec226 _ _ _ _ _ _ _ _ _ _ _ h
      · replace h := e_t c33 h
        exact l_X12_drift_257 rec216 hrec216 rec226 hrec226 _ _ _ _ _ _ _ _ _ _ h
theorem l_X12_drift_226 (rec216 : Int32 → Int32 → Int32 → Int32 → Int32 → Int32 → aSt → Option (Int64 × aSt)) (hrec216 : ∀ (x5 : Int32) (x6 : Int32) (x7 : Int32) (x8 : Int32) (x9 : Int32) (x10 : Int32) (σ : aSt) (o : Int64 × aSt), rec216 x5 x6 x7 x8 x9 x10 σ = some o → AW true m_X12_drift 216 [(0, va_rf (some (57))), (5, Value.int (x5)), (6, Value.int (x6)), (7, Value.int (x7)), (8, Value.int (x8)), (9, Value.int (x9)), (10, Value.int (x10))] [] σ 0 0 (some (.long o.1)) o.2) : ∀ (n : Nat) (x5 : Int32) (x6 : Int32) (x7 : Int32) (x8 : Int32) (x9 : Int32) (x10 : Int32) (x11 : Int32) (σ : aSt) (o : Int64 × aSt), f_X12_drift_226 rec216 n x5 x6 x7 x8 x9 x10 x11 σ = some o → AW true m_X12_drift 226 [(0, va_rf (some (57))), (5, Value.int (x5)), (6, Value.int (x6)), (7, Value.int (x7)), (8, Value.int (x8)), (9, Value.int (x9)), (10, Value.int (x10)), (11, Value.int (x11))] [] σ 0 0 (some (.long o.1)) o.2
  | 0 => fun x5 x6 x7 x8 x9 x10 x11 σ o h => by cases h
  | n + 1 => fun x5 x6 x7 x8 x9 x10 x11 σ o h => l_X12_drift_226_b rec216 hrec216 (f_X12_drift_226 rec216 n) (l_X12_drift_226 rec216 hrec216 n) x5 x6 x7 x8 x9 x10 x11 σ o h
set_option maxRecDepth 100000 in
set_option maxHeartbeats 4000000 in
theorem l_X12_drift_425 (rec348 : Int32 → Int32 → Int32 → Int32 → Int32 → Int32 → Int32 → Int64 → Int32 → aSt → Option (Int64 × aSt)) (hrec348 : ∀ (x5 : Int32) (x6 : Int32) (x7 : Int32) (x8 : Int32) (x9 : Int32) (x10 : Int32) (x11 : Int32) (x12 : Int64) (x14 : Int32) (σ : aSt) (o : Int64 × aSt), rec348 x5 x6 x7 x8 x9 x10 x11 x12 x14 σ = some o → AW true m_X12_drift 348 [(0, va_rf (some (57))), (5, Value.int (x5)), (6, Value.int (x6)), (7, Value.int (x7)), (8, Value.int (x8)), (9, Value.int (x9)), (10, Value.int (x10)), (11, Value.int (x11)), (12, Value.long (x12)), (14, Value.int (x14))] [] σ 0 0 (some (.long o.1)) o.2) (x5 : Int32) (x6 : Int32) (x7 : Int32) (x8 : Int32) (x9 : Int32) (x10 : Int32) (x11 : Int32) (x14 : Int32) (t0 : Int64) (t1 : Int64) (σ : aSt) (o : Int64 × aSt) (h : f_X12_drift_425 rec348 x5 x6 x7 x8 x9 x10 x11 x14 t0 t1 σ = some o) : AW true m_X12_drift 425 [(0, va_rf (some (57))), (5, Value.int (x5)), (6, Value.int (x6)), (7, Value.int (x7)), (8, Value.int (x8)), (9, Value.int (x9)), (10, Value.int (x10)), (11, Value.int (x11)), (14, Value.int (x14))] [.long (t1), .long (t0)] σ 0 0 (some (.long o.1)) o.2 := by
  unfold f_X12_drift_425 at h
  refine w_ladd dX12_drift_425 ?_
  refine w_lstore dX12_drift_426 (by decide) rfl ?_
  refine w_iinc (q := 9) (v := x14 + 1) dX12_drift_428 rfl rfl (by decide) rfl ?_
  refine w_goto 348 dX12_drift_431 (by decide) ?_
  refine w_sub [2, 3, 4, 5, 6, 7, 8, 9, 1, 0] rfl ?_
  exact hrec348 _ _ _ _ _ _ _ _ _ _ _ h
set_option maxRecDepth 100000 in
set_option maxHeartbeats 4000000 in
theorem l_X12_drift_384 (rec348 : Int32 → Int32 → Int32 → Int32 → Int32 → Int32 → Int32 → Int64 → Int32 → aSt → Option (Int64 × aSt)) (hrec348 : ∀ (x5 : Int32) (x6 : Int32) (x7 : Int32) (x8 : Int32) (x9 : Int32) (x10 : Int32) (x11 : Int32) (x12 : Int64) (x14 : Int32) (σ : aSt) (o : Int64 × aSt), rec348 x5 x6 x7 x8 x9 x10 x11 x12 x14 σ = some o → AW true m_X12_drift 348 [(0, va_rf (some (57))), (5, Value.int (x5)), (6, Value.int (x6)), (7, Value.int (x7)), (8, Value.int (x8)), (9, Value.int (x9)), (10, Value.int (x10)), (11, Value.int (x11)), (12, Value.long (x12)), (14, Value.int (x14))] [] σ 0 0 (some (.long o.1)) o.2) (x5 : Int32) (x6 : Int32) (x7 : Int32) (x8 : Int32) (x9 : Int32) (x10 : Int32) (x11 : Int32) (x12 : Int64) (x14 : Int32) (t0 : Int32) (σ : aSt) (o : Int64 × aSt) (h : f_X12_drift_384 rec348 x5 x6 x7 x8 x9 x10 x11 x12 x14 t0 σ = some o) : AW true m_X12_drift 384 [(0, va_rf (some (57))), (5, Value.int (x5)), (6, Value.int (x6)), (7, Value.int (x7)), (8, Value.int (x8)), (9, Value.int (x9)), (10, Value.int (x10)), (11, Value.int (x11)), (12, Value.long (x12)), (14, Value.int (x14))] [.int (t0)] σ 0 0 (some (.long o.1)) o.2 := by
  unfold f_X12_drift_384 at h
  refine w_istore dX12_drift_384 (by decide) rfl ?_
  refine w_lload 9 dX12_drift_386 rfl ?_
  refine w_iload 0 dX12_drift_388 rfl ?_
  refine w_iload 8 dX12_drift_390 rfl ?_
  refine w_icmp_lt 424 dX12_drift_392 (by decide) (fun c16 => ?_) (fun c16 => ?_)
  · replace h := e_t c16 h
    refine w_lconst (v := 0) dX12_drift_424 (by decide) ?_
    refine w_sub [1, 2, 3, 4, 5, 6, 7, 8, 10] rfl ?_
    exact l_X12_drift_425 rec348 hrec348 _ _ _ _ _ _ _ _ _ _ _ _ h
  · replace h := e_f c16 h
    refine w_aload_n 1 ((some (57))) dX12_drift_395 rfl rfl ?_
    refine w_iload 7 dX12_drift_396 rfl ?_
    refine w_iload 10 dX12_drift_398 rfl ?_
    replace h := e_bind h; obtain ⟨q17, e18, h⟩ := h
    refine w_callV1 (M2 := m_X12_waysOf) (av := [.int (x10), .int (x14)]) (ci := 12) (c_X12_waysOf _ _ _ _ e18) dX12_drift_400 kd_X12_waysOf wd_46_22 wd_46_23 wd_47_0 rfl rfl ⟨rfl, Or.inr ⟨rfl, by decide⟩⟩ rfl ⟨Nat.le_of_ble_eq_true rfl, Nat.le_of_ble_eq_true rfl, Nat.le_of_ble_eq_true rfl, Nat.le_of_ble_eq_true rfl⟩ (Nat.le_of_ble_eq_true rfl) ?_
    refine w_aload_n 1 ((some (57))) dX12_drift_403 rfl rfl ?_
    refine w_iload 3 dX12_drift_404 rfl ?_
    refine w_iload 5 dX12_drift_406 rfl ?_
    refine w_iadd dX12_drift_408 ?_
    refine w_iload 7 dX12_drift_409 rfl ?_
    refine w_isub dX12_drift_411 ?_
    refine w_iload 3 dX12_drift_412 rfl ?_
    refine w_iload 10 dX12_drift_414 rfl ?_
    refine w_isub dX12_drift_416 ?_
    replace h := e_bind h; obtain ⟨q19, e20, h⟩ := h
    refine w_callV1 (M2 := m_X12_waysOf) (av := [.int ((x6 + x8) - x10), .int (x6 - x14)]) (ci := 12) (c_X12_waysOf _ _ _ _ e20) dX12_drift_417 kd_X12_waysOf wd_46_22 wd_46_23 wd_47_0 rfl rfl ⟨rfl, Or.inr ⟨rfl, by decide⟩⟩ rfl ⟨Nat.le_of_ble_eq_true rfl, Nat.le_of_ble_eq_true rfl, Nat.le_of_ble_eq_true rfl, Nat.le_of_ble_eq_true rfl⟩ (Nat.le_of_ble_eq_true rfl) ?_
    refine w_lmul dX12_drift_420 ?_
    refine w_goto 425 dX12_drift_421 (by decide) ?_
    refine w_sub [1, 2, 3, 4, 5, 6, 7, 8, 10] rfl ?_
    exact l_X12_drift_425 rec348 hrec348 _ _ _ _ _ _ _ _ _ _ _ _ h
set_option maxRecDepth 100000 in
set_option maxHeartbeats 4000000 in
theorem l_X12_drift_503  (t0 : Int64) (σ : aSt) (o : Int64 × aSt) (h : f_X12_drift_503  t0 σ = some o) : AW true m_X12_drift 503 [] [.long (t0)] σ 0 0 (some (.long o.1)) o.2 := by
  unfold f_X12_drift_503 at h
  obtain rfl := Option.some.inj h
  exact w_lreturn dX12_drift_503 rfl (Nat.le_of_ble_eq_true rfl) (Nat.le_of_ble_eq_true rfl)
set_option maxRecDepth 100000 in
set_option maxHeartbeats 4000000 in
theorem l_X12_drift_348_b (rec348 : Int32 → Int32 → Int32 → Int32 → Int32 → Int32 → Int32 → Int64 → Int32 → aSt → Option (Int64 × aSt)) (hrec348 : ∀ (x5 : Int32) (x6 : Int32) (x7 : Int32) (x8 : Int32) (x9 : Int32) (x10 : Int32) (x11 : Int32) (x12 : Int64) (x14 : Int32) (σ : aSt) (o : Int64 × aSt), rec348 x5 x6 x7 x8 x9 x10 x11 x12 x14 σ = some o → AW true m_X12_drift 348 [(0, va_rf (some (57))), (5, Value.int (x5)), (6, Value.int (x6)), (7, Value.int (x7)), (8, Value.int (x8)), (9, Value.int (x9)), (10, Value.int (x10)), (11, Value.int (x11)), (12, Value.long (x12)), (14, Value.int (x14))] [] σ 0 0 (some (.long o.1)) o.2) (x5 : Int32) (x6 : Int32) (x7 : Int32) (x8 : Int32) (x9 : Int32) (x10 : Int32) (x11 : Int32) (x12 : Int64) (x14 : Int32) (σ : aSt) (o : Int64 × aSt) (h : f_X12_drift_348_b rec348 x5 x6 x7 x8 x9 x10 x11 x12 x14 σ = some o) : AW true m_X12_drift 348 [(0, va_rf (some (57))), (5, Value.int (x5)), (6, Value.int (x6)), (7, Value.int (x7)), (8, Value.int (x8)), (9, Value.int (x9)), (10, Value.int (x10)), (11, Value.int (x11)), (12, Value.long (x12)), (14, Value.int (x14))] [] σ 0 0 (some (.long o.1)) o.2 := by
  unfold f_X12_drift_348_b at h
  refine w_iload 9 dX12_drift_348 rfl ?_
  refine w_iload 6 dX12_drift_350 rfl ?_
  refine w_icmp_gt 434 dX12_drift_352 (by decide) (fun c21 => ?_) (fun c21 => ?_)
  · replace h := e_t c21 h
    refine w_iload 1 dX12_drift_434 rfl ?_
    refine w_if_ne 444 dX12_drift_436 (by decide) (fun c22 => ?_) (fun c22 => ?_)
    · replace h := e_f c22 h
      refine w_iload 1 dX12_drift_444 rfl ?_
      refine w_iconst (v := 1) dX12_drift_446 (by decide) ?_
      refine w_icmp_ne 464 dX12_drift_447 (by decide) (fun c23 => ?_) (fun c23 => ?_)
      · replace h := e_f c23 h
        refine w_iload 1 dX12_drift_464 rfl ?_
        refine w_iconst (v := 2) dX12_drift_466 (by decide) ?_
        refine w_icmp_ne 476 dX12_drift_467 (by decide) (fun c24 => ?_) (fun c24 => ?_)
        · replace h := e_f c24 h
          refine w_iload 1 dX12_drift_476 rfl ?_
          refine w_iconst (v := 3) dX12_drift_478 (by decide) ?_
          refine w_icmp_ne 488 dX12_drift_479 (by decide) (fun c25 => ?_) (fun c25 => ?_)
          · replace h := e_f c25 h
            refine w_iload 1 dX12_drift_488 rfl ?_
            refine w_iconst (v := 4) dX12_drift_490 (by decide) ?_
            refine w_icmp_ne 500 dX12_drift_491 (by decide) (fun c26 => ?_) (fun c26 => ?_)
            · replace h := e_f c26 h
              refine w_iload 5 dX12_drift_500 rfl ?_
              refine w_i2l dX12_drift_502 ?_
              refine w_sub [] rfl ?_
              exact l_X12_drift_503 _ _ _ h
            · replace h := e_t c26 h
              refine w_iload 4 dX12_drift_494 rfl ?_
              refine w_i2l dX12_drift_496 ?_
              refine w_goto 503 dX12_drift_497 (by decide) ?_
              refine w_sub [] rfl ?_
              exact l_X12_drift_503 _ _ _ h
          · replace h := e_t c25 h
            refine w_iload 3 dX12_drift_482 rfl ?_
            refine w_i2l dX12_drift_484 ?_
            refine w_goto 503 dX12_drift_485 (by decide) ?_
            refine w_sub [] rfl ?_
            exact l_X12_drift_503 _ _ _ h
        · replace h := e_t c24 h
          refine w_iload 2 dX12_drift_470 rfl ?_
          refine w_i2l dX12_drift_472 ?_
          refine w_goto 503 dX12_drift_473 (by decide) ?_
          refine w_sub [] rfl ?_
          exact l_X12_drift_503 _ _ _ h
      · replace h := e_t c23 h
        refine w_aload_n 0 ((some (57))) dX12_drift_450 rfl rfl ?_
        refine w_iload 2 dX12_drift_451 rfl ?_
        refine w_iload 4 dX12_drift_453 rfl ?_
        refine w_iadd dX12_drift_455 ?_
        refine w_iload 2 dX12_drift_456 rfl ?_
        replace h := e_bind h; obtain ⟨q27, e28, h⟩ := h
        refine w_callV1 (M2 := m_X12_waysOf) (av := [.int (x6 + x8), .int (x6)]) (ci := 12) (c_X12_waysOf _ _ _ _ e28) dX12_drift_458 kd_X12_waysOf wd_46_22 wd_46_23 wd_47_0 rfl rfl ⟨rfl, Or.inr ⟨rfl, by decide⟩⟩ rfl ⟨Nat.le_of_ble_eq_true rfl, Nat.le_of_ble_eq_true rfl, Nat.le_of_ble_eq_true rfl, Nat.le_of_ble_eq_true rfl⟩ (Nat.le_of_ble_eq_true rfl) ?_
        refine w_goto 503 dX12_drift_461 (by decide) ?_
        refine w_sub [] rfl ?_
        exact l_X12_drift_503 _ _ _ h
    · replace h := e_t c22 h
      refine w_lload 8 dX12_drift_439 rfl ?_
      refine w_goto 503 dX12_drift_441 (by decide) ?_
      refine w_sub [] rfl ?_
      exact l_X12_drift_503 _ _ _ h
  · replace h := e_f c21 h
    refine w_iload 9 dX12_drift_355 rfl ?_
    refine w_iload 4 dX12_drift_357 rfl ?_
    refine w_imul dX12_drift_359 ?_
    refine w_iload 6 dX12_drift_360 rfl ?_
    refine w_iload 9 dX12_drift_362 rfl ?_
    refine w_isub dX12_drift_364 ?_
    refine w_iload 2 dX12_drift_365 rfl ?_
    refine w_imul dX12_drift_367 ?_
    refine w_isub dX12_drift_368 ?_
    refine w_istore dX12_drift_369 (by decide) rfl ?_
    refine w_iload 0 dX12_drift_371 rfl ?_
    refine w_if_ge 382 dX12_drift_373 (by decide) (fun c29 => ?_) (fun c29 => ?_)
    · replace h := e_t c29 h
      refine w_iload 0 dX12_drift_382 rfl ?_
      refine w_sub [1, 2, 3, 4, 5, 6, 7, 8, 9, 10] rfl ?_
      exact l_X12_drift_384 rec348 hrec348 _ _ _ _ _ _ _ _ _ _ _ _ h
    · replace h := e_f c29 h
      refine w_iload 0 dX12_drift_376 rfl ?_
      refine w_ineg dX12_drift_378 ?_
      refine w_goto 384 dX12_drift_379 (by decide) ?_
      refine w_sub [1, 2, 3, 4, 5, 6, 7, 8, 9, 10] rfl ?_
      exact l_X12_drift_384 rec348 hrec348 _ _ _ _ _ _ _ _ _ _ _ _ h
theorem l_X12_drift_348  : ∀ (n : Nat) (x5 : Int32) (x6 : Int32) (x7 : Int32) (x8 : Int32) (x9 : Int32) (x10 : Int32) (x11 : Int32) (x12 : Int64) (x14 : Int32) (σ : aSt) (o : Int64 × aSt), f_X12_drift_348  n x5 x6 x7 x8 x9 x10 x11 x12 x14 σ = some o → AW true m_X12_drift 348 [(0, va_rf (some (57))), (5, Value.int (x5)), (6, Value.int (x6)), (7, Value.int (x7)), (8, Value.int (x8)), (9, Value.int (x9)), (10, Value.int (x10)), (11, Value.int (x11)), (12, Value.long (x12)), (14, Value.int (x14))] [] σ 0 0 (some (.long o.1)) o.2
  | 0 => fun x5 x6 x7 x8 x9 x10 x11 x12 x14 σ o h => by cases h
  | n + 1 => fun x5 x6 x7 x8 x9 x10 x11 x12 x14 σ o h => l_X12_drift_348_b (f_X12_drift_348  n) (l_X12_drift_348  n) x5 x6 x7 x8 x9 x10 x11 x12 x14 σ o h
set_option maxRecDepth 100000 in
set_option maxHeartbeats 4000000 in
theorem l_X12_drift_340  (x5 : Int32) (x6 : Int32) (x7 : Int32) (x8 : Int32) (x9 : Int32) (x10 : Int32) (t0 : Int32) (σ : aSt) (o : Int64 × aSt) (h : f_X12_drift_340  x5 x6 x7 x8 x9 x10 t0 σ = some o) : AW true m_X12_drift 340 [(0, va_rf (some (57))), (5, Value.int (x5)), (6, Value.int (x6)), (7, Value.int (x7)), (8, Value.int (x8)), (9, Value.int (x9)), (10, Value.int (x10))] [.int (t0)] σ 0 0 (some (.long o.1)) o.2 := by
  unfold f_X12_drift_340 at h
  refine w_istore dX12_drift_340 (by decide) rfl ?_
  refine w_lconst (v := 0) dX12_drift_342 (by decide) ?_
  refine w_lstore dX12_drift_343 (by decide) rfl ?_
  refine w_iconst (v := 0) dX12_drift_345 (by decide) ?_
  refine w_istore dX12_drift_346 (by decide) rfl ?_
  refine w_sub [3, 4, 5, 6, 7, 8, 9, 2, 1, 0] rfl ?_
  exact l_X12_drift_348 aN _ _ _ _ _ _ _ _ _ _ _ h
set_option maxRecDepth 100000 in
set_option maxHeartbeats 4000000 in
theorem l_X12_drift_216_b (rec216 : Int32 → Int32 → Int32 → Int32 → Int32 → Int32 → aSt → Option (Int64 × aSt)) (hrec216 : ∀ (x5 : Int32) (x6 : Int32) (x7 : Int32) (x8 : Int32) (x9 : Int32) (x10 : Int32) (σ : aSt) (o : Int64 × aSt), rec216 x5 x6 x7 x8 x9 x10 σ = some o → AW true m_X12_drift 216 [(0, va_rf (some (57))), (5, Value.int (x5)), (6, Value.int (x6)), (7, Value.int (x7)), (8, Value.int (x8)), (9, Value.int (x9)), (10, Value.int (x10))] [] σ 0 0 (some (.long o.1)) o.2) (x5 : Int32) (x6 : Int32) (x7 : Int32) (x8 : Int32) (x9 : Int32) (x10 : Int32) (σ : aSt) (o : Int64 × aSt) (h : f_X12_drift_216_b rec216 x5 x6 x7 x8 x9 x10 σ = some o) : AW true m_X12_drift 216 [(0, va_rf (some (57))), (5, Value.int (x5)), (6, Value.int (x6)), (7, Value.int (x7)), (8, Value.int (x8)), (9, Value.int (x9)), (10, Value.int (x10))] [] σ 0 0 (some (.long o.1)) o.2 := by
  unfold f_X12_drift_216_b at h
  refine w_iload 6 dX12_drift_216 rfl ?_
  refine w_bipush (v := 41) dX12_drift_218 (by decide) ?_
  refine w_icmp_ge 307 dX12_drift_220 (by decide) (fun c36 => ?_) (fun c36 => ?_)
  · replace h := e_t c36 h
    refine w_iload 3 dX12_drift_307 rfl ?_
    refine w_iload 5 dX12_drift_309 rfl ?_
    refine w_iadd dX12_drift_311 ?_
    refine w_istore dX12_drift_312 (by decide) rfl ?_
    refine w_iload 4 dX12_drift_314 rfl ?_
    refine w_iload 5 dX12_drift_316 rfl ?_
    refine w_imul dX12_drift_318 ?_
    refine w_iload 6 dX12_drift_319 rfl ?_
    refine w_iload 3 dX12_drift_321 rfl ?_
    refine w_imul dX12_drift_323 ?_
    refine w_isub dX12_drift_324 ?_
    refine w_istore dX12_drift_325 (by decide) rfl ?_
    refine w_iload 0 dX12_drift_327 rfl ?_
    refine w_if_ge 338 dX12_drift_329 (by decide) (fun c37 => ?_) (fun c37 => ?_)
    · replace h := e_t c37 h
      refine w_iload 0 dX12_drift_338 rfl ?_
      refine w_sub [2, 3, 4, 5, 6, 7, 1] rfl ?_
      exact l_X12_drift_340 _ _ _ _ _ _ _ _ _ h
    · replace h := e_f c37 h
      refine w_iload 0 dX12_drift_332 rfl ?_
      refine w_ineg dX12_drift_334 ?_
      refine w_goto 340 dX12_drift_335 (by decide) ?_
      refine w_sub [2, 3, 4, 5, 6, 7, 1] rfl ?_
      exact l_X12_drift_340 _ _ _ _ _ _ _ _ _ h
  · replace h := e_f c36 h
    refine w_iconst (v := 0) dX12_drift_223 (by decide) ?_
    refine w_istore dX12_drift_224 (by decide) rfl ?_
    refine w_sub [1, 2, 3, 4, 5, 6, 7, 0] rfl ?_
    exact l_X12_drift_226 rec216 hrec216 aN _ _ _ _ _ _ _ _ _ h
theorem l_X12_drift_216  : ∀ (n : Nat) (x5 : Int32) (x6 : Int32) (x7 : Int32) (x8 : Int32) (x9 : Int32) (x10 : Int32) (σ : aSt) (o : Int64 × aSt), f_X12_drift_216  n x5 x6 x7 x8 x9 x10 σ = some o → AW true m_X12_drift 216 [(0, va_rf (some (57))), (5, Value.int (x5)), (6, Value.int (x6)), (7, Value.int (x7)), (8, Value.int (x8)), (9, Value.int (x9)), (10, Value.int (x10))] [] σ 0 0 (some (.long o.1)) o.2
  | 0 => fun x5 x6 x7 x8 x9 x10 σ o h => by cases h
  | n + 1 => fun x5 x6 x7 x8 x9 x10 σ o h => l_X12_drift_216_b (f_X12_drift_216  n) (l_X12_drift_216  n) x5 x6 x7 x8 x9 x10 σ o h
set_option maxRecDepth 100000 in
set_option maxHeartbeats 4000000 in
theorem l_X12_drift_88_b (rec88 : Int32 → Int32 → Int32 → Int32 → Int32 → Int32 → Int32 → Int32 → Int32 → Int32 → aSt → Option (Int64 × aSt)) (hrec88 : ∀ (x1 : Int32) (x2 : Int32) (x3 : Int32) (x4 : Int32) (x5 : Int32) (x6 : Int32) (x7 : Int32) (x8 : Int32) (x9 : Int32) (x10 : Int32) (σ : aSt) (o : Int64 × aSt), rec88 x1 x2 x3 x4 x5 x6 x7 x8 x9 x10 σ = some o → AW true m_X12_drift 88 [(0, va_rf (some (57))), (1, Value.int (x1)), (2, Value.int (x2)), (3, Value.int (x3)), (4, Value.int (x4)), (5, Value.int (x5)), (6, Value.int (x6)), (7, Value.int (x7)), (8, Value.int (x8)), (9, Value.int (x9)), (10, Value.int (x10))] [] σ 0 0 (some (.long o.1)) o.2) (x1 : Int32) (x2 : Int32) (x3 : Int32) (x4 : Int32) (x5 : Int32) (x6 : Int32) (x7 : Int32) (x8 : Int32) (x9 : Int32) (x10 : Int32) (σ : aSt) (o : Int64 × aSt) (h : f_X12_drift_88_b rec88 x1 x2 x3 x4 x5 x6 x7 x8 x9 x10 σ = some o) : AW true m_X12_drift 88 [(0, va_rf (some (57))), (1, Value.int (x1)), (2, Value.int (x2)), (3, Value.int (x3)), (4, Value.int (x4)), (5, Value.int (x5)), (6, Value.int (x6)), (7, Value.int (x7)), (8, Value.int (x8)), (9, Value.int (x9)), (10, Value.int (x10))] [] σ 0 0 (some (.long o.1)) o.2 := by
  unfold f_X12_drift_88_b at h
  refine w_iload 10 dX12_drift_88 rfl ?_
  refine w_aload_n 0 ((some (57))) dX12_drift_90 rfl rfl ?_
  refine w_get dX12_drift_91 fl_RX12_127 ⟨rfl, Or.inr ⟨rfl, by decide⟩⟩ (aFv_i rfl) ?_
  refine w_icmp_ge 199 dX12_drift_94 (by decide) (fun c44 => ?_) (fun c44 => ?_)
  · replace h := e_t c44 h
    refine w_iload 6 dX12_drift_199 rfl ?_
    refine w_iload 8 dX12_drift_201 rfl ?_
    refine w_iadd dX12_drift_203 ?_
    refine w_bipush (v := 40) dX12_drift_204 (by decide) ?_
    refine w_icmp_le 213 dX12_drift_206 (by decide) (fun c45 => ?_) (fun c45 => ?_)
    · replace h := e_t c45 h
      refine w_iconst (v := 0) dX12_drift_213 (by decide) ?_
      refine w_istore dX12_drift_214 (by decide) rfl ?_
      refine w_sub [1, 6, 7, 8, 9, 10, 0] rfl ?_
      exact l_X12_drift_216 aN _ _ _ _ _ _ _ _ h
    · replace h := e_f c45 h
      refine w_ldc2 (v := (-1000003)) dX12_drift_209 wd_46_21 ?_
      obtain rfl := Option.some.inj h
      exact w_lreturn dX12_drift_212 rfl (Nat.le_of_ble_eq_true rfl) (Nat.le_of_ble_eq_true rfl)
  · replace h := e_f c44 h
    refine w_aload_n 0 ((some (57))) dX12_drift_97 rfl rfl ?_
    refine w_get (v := va_rf (some 62)) dX12_drift_98 fl_RX12_22 ⟨rfl, Or.inr ⟨rfl, by decide⟩⟩ (aFv_k rfl) ?_
    refine w_iload 10 dX12_drift_101 rfl ?_
    replace h := e_grd h; obtain ⟨b46, h⟩ := h
    refine w_iaload dX12_drift_103 ⟨rfl, Or.inr ⟨rfl, by decide⟩⟩ b46 ?_
    refine w_iload_n 2 dX12_drift_104 rfl rfl ?_
    refine w_icmp_lt 146 dX12_drift_105 (by decide) (fun c47 => ?_) (fun c47 => ?_)
    · replace h := e_t c47 h
      exact l_X12_drift_146 rec88 hrec88 _ _ _ _ _ _ _ _ _ _ _ _ h
    · replace h := e_f c47 h
      refine w_aload_n 0 ((some (57))) dX12_drift_108 rfl rfl ?_
      refine w_get (v := va_rf (some 62)) dX12_drift_109 fl_RX12_22 ⟨rfl, Or.inr ⟨rfl, by decide⟩⟩ (aFv_k rfl) ?_
      refine w_iload 10 dX12_drift_112 rfl ?_
      replace h := e_grd h; obtain ⟨b48, h⟩ := h
      refine w_iaload dX12_drift_114 ⟨rfl, Or.inr ⟨rfl, by decide⟩⟩ b48 ?_
      refine w_iload_n 3 dX12_drift_115 rfl rfl ?_
      refine w_icmp_ge 146 dX12_drift_116 (by decide) (fun c49 => ?_) (fun c49 => ?_)
      · replace h := e_t c49 h
        exact l_X12_drift_146 rec88 hrec88 _ _ _ _ _ _ _ _ _ _ _ _ h
      · replace h := e_f c49 h
        refine w_iinc (q := 6) (v := x6 + 1) dX12_drift_119 rfl rfl (by decide) rfl ?_
        refine w_iload 7 dX12_drift_122 rfl ?_
        refine w_aload_n 1 ((some (57))) dX12_drift_124 rfl rfl ?_
        refine w_get (v := va_rf (some 66)) dX12_drift_125 fl_RX12_34 ⟨rfl, Or.inr ⟨rfl, by decide⟩⟩ (aFv_k rfl) ?_
        refine w_iload 10 dX12_drift_128 rfl ?_
        replace h := e_grd h; obtain ⟨b50, h⟩ := h
        refine w_iaload dX12_drift_130 ⟨rfl, Or.inr ⟨rfl, by decide⟩⟩ b50 ?_
        refine w_iload_n 2 dX12_drift_131 rfl rfl ?_
        refine w_icmp_ne 139 dX12_drift_132 (by decide) (fun c51 => ?_) (fun c51 => ?_)
        · replace h := e_f c51 h
          refine w_iconst (v := 0) dX12_drift_139 (by decide) ?_
          refine w_sub [1, 2, 3, 4, 5, 6, 0, 8, 9, 10] rfl ?_
          exact l_X12_drift_140 rec88 hrec88 _ _ _ _ _ _ _ _ _ _ _ _ _ h
        · replace h := e_t c51 h
          refine w_iconst (v := 1) dX12_drift_135 (by decide) ?_
          refine w_goto 140 dX12_drift_136 (by decide) ?_
          refine w_sub [1, 2, 3, 4, 5, 6, 0, 8, 9, 10] rfl ?_
          exact l_X12_drift_140 rec88 hrec88 _ _ _ _ _ _ _ _ _ _ _ _ _ h
theorem l_X12_drift_88  : ∀ (n : Nat) (x1 : Int32) (x2 : Int32) (x3 : Int32) (x4 : Int32) (x5 : Int32) (x6 : Int32) (x7 : Int32) (x8 : Int32) (x9 : Int32) (x10 : Int32) (σ : aSt) (o : Int64 × aSt), f_X12_drift_88  n x1 x2 x3 x4 x5 x6 x7 x8 x9 x10 σ = some o → AW true m_X12_drift 88 [(0, va_rf (some (57))), (1, Value.int (x1)), (2, Value.int (x2)), (3, Value.int (x3)), (4, Value.int (x4)), (5, Value.int (x5)), (6, Value.int (x6)), (7, Value.int (x7)), (8, Value.int (x8)), (9, Value.int (x9)), (10, Value.int (x10))] [] σ 0 0 (some (.long o.1)) o.2
  | 0 => fun x1 x2 x3 x4 x5 x6 x7 x8 x9 x10 σ o h => by cases h
  | n + 1 => fun x1 x2 x3 x4 x5 x6 x7 x8 x9 x10 σ o h => l_X12_drift_88_b (f_X12_drift_88  n) (l_X12_drift_88  n) x1 x2 x3 x4 x5 x6 x7 x8 x9 x10 σ o h
set_option maxRecDepth 100000 in
set_option maxHeartbeats 4000000 in
theorem c_X12_drift (p1 : Int32) (p2 : Int32) (p3 : Int32) (p4 : Int32) (p5 : Int32) (σ : aSt) (o : Int64 × aSt) (h : f_X12_drift p1 p2 p3 p4 p5 σ = some o) : AM true m_X12_drift [va_rf (some (57)), .int (p1), .int (p2), .int (p3), .int (p4), .int (p5)] σ (some (.long o.1)) o.2 := by
  refine AM_of2 (lv := [(0, va_rf (some (57))), (1, Value.int (p1)), (2, Value.int (p2)), (3, Value.int (p3)), (4, Value.int (p4)), (5, Value.int (p5))]) (by decide +kernel) rfl (Nat.le_of_ble_eq_true rfl) ?_
  unfold f_X12_drift at h
  refine w_aload_n 0 ((some (57))) dX12_drift_0 rfl rfl ?_
  refine w_iconst (v := 0) dX12_drift_1 (by decide) ?_
  refine w_putI dX12_drift_2 fl_RX12_102 (Or.inl rfl) rfl ⟨rfl, Or.inr ⟨rfl, by decide⟩⟩ ?_
  refine w_iload_n 1 dX12_drift_5 rfl rfl ?_
  refine w_i2l dX12_drift_6 ?_
  refine w_lconst (v := 0) dX12_drift_7 (by decide) ?_
  refine w_ldc2 (v := 3) dX12_drift_8 wd_15_10 ?_
  replace h := e_bind h; obtain ⟨q1, e2, h⟩ := h
  refine w_callS1 (M2 := m_X12_in) (av := [.long (p1.toInt64), .long (0), .long (3)]) (c_X12_in _ _ _ _ _ e2) dX12_drift_11 kd_X12_in wd_11_3 wd_11_4 rfl rfl ⟨Nat.le_of_ble_eq_true rfl, Nat.le_of_ble_eq_true rfl, Nat.le_of_ble_eq_true rfl, Nat.le_of_ble_eq_true rfl⟩ (Nat.le_of_ble_eq_true rfl) ?_
  refine w_if_eq 69 dX12_drift_14 (by decide) (fun c3 => ?_) (fun c3 => ?_)
  · replace h := e_t c3 h
    refine w_sub [] rfl ?_
    exact l_X12_drift_69 _ _ h
  · replace h := e_f c3 h
    refine w_iload_n 2 dX12_drift_17 rfl rfl ?_
    refine w_i2l dX12_drift_18 ?_
    refine w_lconst (v := 0) dX12_drift_19 (by decide) ?_
    refine w_ldc2 (v := 200000) dX12_drift_20 wd_46_19 ?_
    replace h := e_bind h; obtain ⟨q4, e5, h⟩ := h
    refine w_callS1 (M2 := m_X12_in) (av := [.long (p2.toInt64), .long (0), .long (200000)]) (c_X12_in _ _ _ _ _ e5) dX12_drift_23 kd_X12_in wd_11_3 wd_11_4 rfl rfl ⟨Nat.le_of_ble_eq_true rfl, Nat.le_of_ble_eq_true rfl, Nat.le_of_ble_eq_true rfl, Nat.le_of_ble_eq_true rfl⟩ (Nat.le_of_ble_eq_true rfl) ?_
    refine w_if_eq 69 dX12_drift_26 (by decide) (fun c6 => ?_) (fun c6 => ?_)
    · replace h := e_t c6 h
      refine w_sub [] rfl ?_
      exact l_X12_drift_69 _ _ h
    · replace h := e_f c6 h
      refine w_iload_n 3 dX12_drift_29 rfl rfl ?_
      refine w_i2l dX12_drift_30 ?_
      refine w_iload_n 2 dX12_drift_31 rfl rfl ?_
      refine w_i2l dX12_drift_32 ?_
      refine w_ldc2 (v := 200000) dX12_drift_33 wd_46_19 ?_
      replace h := e_bind h; obtain ⟨q7, e8, h⟩ := h
      refine w_callS1 (M2 := m_X12_in) (av := [.long (p3.toInt64), .long (p2.toInt64), .long (200000)]) (c_X12_in _ _ _ _ _ e8) dX12_drift_36 kd_X12_in wd_11_3 wd_11_4 rfl rfl ⟨Nat.le_of_ble_eq_true rfl, Nat.le_of_ble_eq_true rfl, Nat.le_of_ble_eq_true rfl, Nat.le_of_ble_eq_true rfl⟩ (Nat.le_of_ble_eq_true rfl) ?_
      refine w_if_eq 69 dX12_drift_39 (by decide) (fun c9 => ?_) (fun c9 => ?_)
      · replace h := e_t c9 h
        refine w_sub [] rfl ?_
        exact l_X12_drift_69 _ _ h
      · replace h := e_f c9 h
        refine w_iload 4 dX12_drift_42 rfl ?_
        refine w_i2l dX12_drift_44 ?_
        refine w_iload_n 3 dX12_drift_45 rfl rfl ?_
        refine w_i2l dX12_drift_46 ?_
        refine w_ldc2 (v := 200000) dX12_drift_47 wd_46_19 ?_
        replace h := e_bind h; obtain ⟨q10, e11, h⟩ := h
        refine w_callS1 (M2 := m_X12_in) (av := [.long (p4.toInt64), .long (p3.toInt64), .long (200000)]) (c_X12_in _ _ _ _ _ e11) dX12_drift_50 kd_X12_in wd_11_3 wd_11_4 rfl rfl ⟨Nat.le_of_ble_eq_true rfl, Nat.le_of_ble_eq_true rfl, Nat.le_of_ble_eq_true rfl, Nat.le_of_ble_eq_true rfl⟩ (Nat.le_of_ble_eq_true rfl) ?_
        refine w_if_eq 69 dX12_drift_53 (by decide) (fun c12 => ?_) (fun c12 => ?_)
        · replace h := e_t c12 h
          refine w_sub [] rfl ?_
          exact l_X12_drift_69 _ _ h
        · replace h := e_f c12 h
          refine w_iload 5 dX12_drift_56 rfl ?_
          refine w_i2l dX12_drift_58 ?_
          refine w_lconst (v := 0) dX12_drift_59 (by decide) ?_
          refine w_ldc2 (v := 5) dX12_drift_60 wd_46_20 ?_
          replace h := e_bind h; obtain ⟨q13, e14, h⟩ := h
          refine w_callS1 (M2 := m_X12_in) (av := [.long (p5.toInt64), .long (0), .long (5)]) (c_X12_in _ _ _ _ _ e14) dX12_drift_63 kd_X12_in wd_11_3 wd_11_4 rfl rfl ⟨Nat.le_of_ble_eq_true rfl, Nat.le_of_ble_eq_true rfl, Nat.le_of_ble_eq_true rfl, Nat.le_of_ble_eq_true rfl⟩ (Nat.le_of_ble_eq_true rfl) ?_
          refine w_if_ne 73 dX12_drift_66 (by decide) (fun c15 => ?_) (fun c15 => ?_)
          · replace h := e_f c15 h
            refine w_iconst (v := 0) dX12_drift_73 (by decide) ?_
            refine w_istore dX12_drift_74 (by decide) rfl ?_
            refine w_iconst (v := 0) dX12_drift_76 (by decide) ?_
            refine w_istore dX12_drift_77 (by decide) rfl ?_
            refine w_iconst (v := 0) dX12_drift_79 (by decide) ?_
            refine w_istore dX12_drift_80 (by decide) rfl ?_
            refine w_iconst (v := 0) dX12_drift_82 (by decide) ?_
            refine w_istore dX12_drift_83 (by decide) rfl ?_
            refine w_iconst (v := 0) dX12_drift_85 (by decide) ?_
            refine w_istore dX12_drift_86 (by decide) rfl ?_
            refine w_sub [5, 6, 7, 8, 9, 10, 4, 3, 2, 1, 0] rfl ?_
            exact l_X12_drift_88 aN _ _ _ _ _ _ _ _ _ _ _ _ h
          · replace h := e_t c15 h
            refine w_sub [] rfl ?_
            exact l_X12_drift_69 _ _ h
