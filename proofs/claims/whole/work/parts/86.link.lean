theorem dX0_answer_0 : decode cX0_answer 0 = .ok (.aload_n 0, 1) := by decide +kernel
theorem dX0_answer_1 : decode cX0_answer 1 = .ok (.iconst 0, 1) := by decide +kernel
theorem dX0_answer_2 : decode cX0_answer 2 = .ok (.putfield 13, 3) := by decide +kernel
theorem dX0_answer_5 : decode cX0_answer 5 = .ok (.aload_n 0, 1) := by decide +kernel
theorem dX0_answer_6 : decode cX0_answer 6 = .ok (.aload_n 2, 1) := by decide +kernel
theorem dX0_answer_7 : decode cX0_answer 7 = .ok (.putfield 17, 3) := by decide +kernel
theorem dX0_answer_10 : decode cX0_answer 10 = .ok (.aload_n 0, 1) := by decide +kernel
theorem dX0_answer_11 : decode cX0_answer 11 = .ok (.iload_n 3, 1) := by decide +kernel
theorem dX0_answer_12 : decode cX0_answer 12 = .ok (.putfield 21, 3) := by decide +kernel
theorem dX0_answer_15 : decode cX0_answer 15 = .ok (.aload_n 0, 1) := by decide +kernel
theorem dX0_answer_16 : decode cX0_answer 16 = .ok (.iload 4, 2) := by decide +kernel
theorem dX0_answer_18 : decode cX0_answer 18 = .ok (.putfield 24, 3) := by decide +kernel
theorem dX0_answer_21 : decode cX0_answer 21 = .ok (.aload_n 0, 1) := by decide +kernel
theorem dX0_answer_22 : decode cX0_answer 22 = .ok (.iload_n 1, 1) := by decide +kernel
theorem dX0_answer_23 : decode cX0_answer 23 = .ok (.ifCond .ne 8, 3) := by decide +kernel
theorem dX0_answer_26 : decode cX0_answer 26 = .ok (.bipush 10, 2) := by decide +kernel
theorem dX0_answer_28 : decode cX0_answer 28 = .ok (.goto 5, 3) := by decide +kernel
theorem dX0_answer_31 : decode cX0_answer 31 = .ok (.bipush 20, 2) := by decide +kernel
theorem dX0_answer_33 : decode cX0_answer 33 = .ok (.aload_n 0, 1) := by decide +kernel
theorem dX0_answer_34 : decode cX0_answer 34 = .ok (.getfield 21, 3) := by decide +kernel
theorem dX0_answer_37 : decode cX0_answer 37 = .ok (.iadd, 1) := by decide +kernel
theorem dX0_answer_38 : decode cX0_answer 38 = .ok (.iconst 0, 1) := by decide +kernel
theorem dX0_answer_39 : decode cX0_answer 39 = .ok (.invokevirtual 27, 3) := by decide +kernel
theorem dX0_answer_42 : decode cX0_answer 42 = .ok (.ireturn, 1) := by decide +kernel
theorem kd_X0_answer : aKd m_X0_answer 4 := ⟨wd_49_2, wd_2_17, ⟨by decide +kernel, by decide +kernel, by decide +kernel⟩⟩
set_option maxRecDepth 100000 in
set_option maxHeartbeats 4000000 in
theorem l_X0_answer_33  (t1 : Int32) (σ : aSt) (o : Int32 × aSt) (h : f_X0_answer_33  t1 σ = some o) : AW true m_X0_answer 33 [(0, va_rf (some (32)))] [.int (t1), va_rf (some (32))] σ 0 0 (some (.int o.1)) o.2 := by
  unfold f_X0_answer_33 at h
  refine w_aload_n 0 ((some (32))) dX0_answer_33 rfl rfl ?_
  refine w_get dX0_answer_34 fl_RX0_21 ⟨rfl, Or.inr ⟨rfl, by decide⟩⟩ (aFv_i rfl) ?_
  refine w_iadd dX0_answer_37 ?_
  refine w_iconst (v := 0) dX0_answer_38 (by decide) ?_
  replace h := e_bind h; obtain ⟨q1, e2, h⟩ := h
  refine w_callV1 (M2 := (m_X0_body 8)) (av := [.int (t1 + (gI σ 32 3)), .int (0)]) (ci := 0) (c_X0_body 8 _ _ _ _ e2) dX0_answer_39 (kd_X0_body _) wd_49_3 wd_49_4 wd_49_5 rfl rfl ⟨rfl, Or.inr ⟨rfl, by decide⟩⟩ rfl ⟨Nat.le_of_ble_eq_true rfl, Nat.le_of_ble_eq_true rfl, Nat.le_of_ble_eq_true rfl, Nat.le_of_ble_eq_true rfl⟩ (Nat.le_of_ble_eq_true rfl) ?_
  obtain rfl := Option.some.inj h
  exact w_ireturn dX0_answer_42 rfl (Nat.le_of_ble_eq_true rfl) (Nat.le_of_ble_eq_true rfl)
set_option maxRecDepth 100000 in
set_option maxHeartbeats 4000000 in
theorem l_X0_answer_15  (x1 : Int32) (x4 : Int32) (σ : aSt) (o : Int32 × aSt) (h : f_X0_answer_15  x1 x4 σ = some o) : AW true m_X0_answer 15 [(0, va_rf (some (32))), (1, Value.int (x1)), (4, Value.int (x4))] [] σ 0 0 (some (.int o.1)) o.2 := by
  unfold f_X0_answer_15 at h
  refine w_aload_n 0 ((some (32))) dX0_answer_15 rfl rfl ?_
  refine w_iload 2 dX0_answer_16 rfl ?_
  refine w_putI dX0_answer_18 fl_RX0_24 (Or.inl rfl) rfl ⟨rfl, Or.inr ⟨rfl, by decide⟩⟩ ?_
  refine w_aload_n 0 ((some (32))) dX0_answer_21 rfl rfl ?_
  refine w_iload_n 1 dX0_answer_22 rfl rfl ?_
  refine w_if_ne 31 dX0_answer_23 (by decide) (fun c3 => ?_) (fun c3 => ?_)
  · replace h := e_f c3 h
    refine w_bipush (v := 20) dX0_answer_31 (by decide) ?_
    refine w_sub [0] rfl ?_
    exact l_X0_answer_33 _ _ _ h
  · replace h := e_t c3 h
    refine w_bipush (v := 10) dX0_answer_26 (by decide) ?_
    refine w_goto 33 dX0_answer_28 (by decide) ?_
    refine w_sub [0] rfl ?_
    exact l_X0_answer_33 _ _ _ h
set_option maxRecDepth 100000 in
set_option maxHeartbeats 4000000 in
theorem c_X0_answer (p1 : Int32) (p2 : Nat) (p3 : Int32) (p4 : Int32) (σ : aSt) (o : Int32 × aSt) (h : f_X0_answer p1 p2 p3 p4 σ = some o) : AM true m_X0_answer [va_rf (some (32)), .int (p1), va_rf (some (p2)), .int (p3), .int (p4)] σ (some (.int o.1)) o.2 := by
  refine AM_of2 (lv := [(0, va_rf (some (32))), (1, Value.int (p1)), (2, va_rf (some (p2))), (3, Value.int (p3)), (4, Value.int (p4))]) (by decide +kernel) rfl (Nat.le_of_ble_eq_true rfl) ?_
  unfold f_X0_answer at h
  refine w_aload_n 0 ((some (32))) dX0_answer_0 rfl rfl ?_
  refine w_iconst (v := 0) dX0_answer_1 (by decide) ?_
  refine w_putI dX0_answer_2 fl_RX0_13 (Or.inl rfl) rfl ⟨rfl, Or.inr ⟨rfl, by decide⟩⟩ ?_
  refine w_aload_n 0 ((some (32))) dX0_answer_5 rfl rfl ?_
  refine w_aload_n 2 ((some (p2))) dX0_answer_6 rfl rfl ?_
  refine w_putQ (v := (some (p2))) dX0_answer_7 fl_RX0_17 (Or.inl rfl) (Or.inl rfl) ⟨rfl, Or.inr ⟨rfl, by decide⟩⟩ (Or.inl ⟨_, rfl⟩) ?_
  refine w_aload_n 0 ((some (32))) dX0_answer_10 rfl rfl ?_
  refine w_iload_n 3 dX0_answer_11 rfl rfl ?_
  refine w_putI dX0_answer_12 fl_RX0_21 (Or.inl rfl) rfl ⟨rfl, Or.inr ⟨rfl, by decide⟩⟩ ?_
  refine w_sub [0, 1, 4] rfl ?_
  exact l_X0_answer_15 _ _ _ _ h
theorem dX11_ask_0 : decode cX11_ask 0 = .ok (.aload_n 0, 1) := by decide +kernel
theorem dX11_ask_1 : decode cX11_ask 1 = .ok (.getfield 18, 3) := by decide +kernel
theorem dX11_ask_4 : decode cX11_ask 4 = .ok (.iload_n 1, 1) := by decide +kernel
theorem dX11_ask_5 : decode cX11_ask 5 = .ok (.invokevirtual 141, 3) := by decide +kernel
theorem dX11_ask_8 : decode cX11_ask 8 = .ok (.astore_n 3, 1) := by decide +kernel
theorem dX11_ask_9 : decode cX11_ask 9 = .ok (.aload_n 3, 1) := by decide +kernel
theorem dX11_ask_10 : decode cX11_ask 10 = .ok (.ifnull 12, 3) := by decide +kernel
theorem dX11_ask_13 : decode cX11_ask 13 = .ok (.iload_n 2, 1) := by decide +kernel
theorem dX11_ask_14 : decode cX11_ask 14 = .ok (.iconst 0, 1) := by decide +kernel
theorem dX11_ask_15 : decode cX11_ask 15 = .ok (.iconst 1, 1) := by decide +kernel
theorem dX11_ask_16 : decode cX11_ask 16 = .ok (.invokestatic 89, 3) := by decide +kernel
theorem dX11_ask_19 : decode cX11_ask 19 = .ok (.ifCond .ne 6, 3) := by decide +kernel
theorem dX11_ask_22 : decode cX11_ask 22 = .ok (.ldc 93, 2) := by decide +kernel
theorem dX11_ask_24 : decode cX11_ask 24 = .ok (.ireturn, 1) := by decide +kernel
theorem dX11_ask_25 : decode cX11_ask 25 = .ok (.aload_n 0, 1) := by decide +kernel
theorem dX11_ask_26 : decode cX11_ask 26 = .ok (.getfield 66, 3) := by decide +kernel
theorem dX11_ask_29 : decode cX11_ask 29 = .ok (.iload_n 2, 1) := by decide +kernel
theorem dX11_ask_30 : decode cX11_ask 30 = .ok (.aload_n 3, 1) := by decide +kernel
theorem dX11_ask_31 : decode cX11_ask 31 = .ok (.aload_n 0, 1) := by decide +kernel
theorem dX11_ask_32 : decode cX11_ask 32 = .ok (.getfield 43, 3) := by decide +kernel
theorem dX11_ask_35 : decode cX11_ask 35 = .ok (.aload_n 3, 1) := by decide +kernel
theorem dX11_ask_36 : decode cX11_ask 36 = .ok (.invokevirtual 316, 3) := by decide +kernel
theorem dX11_ask_39 : decode cX11_ask 39 = .ok (.aload_n 0, 1) := by decide +kernel
theorem dX11_ask_40 : decode cX11_ask 40 = .ok (.getfield 43, 3) := by decide +kernel
theorem dX11_ask_43 : decode cX11_ask 43 = .ok (.aload_n 3, 1) := by decide +kernel
theorem dX11_ask_44 : decode cX11_ask 44 = .ok (.iconst 0, 1) := by decide +kernel
theorem dX11_ask_45 : decode cX11_ask 45 = .ok (.invokevirtual 225, 3) := by decide +kernel
theorem dX11_ask_48 : decode cX11_ask 48 = .ok (.invokevirtual 320, 3) := by decide +kernel
theorem dX11_ask_51 : decode cX11_ask 51 = .ok (.ireturn, 1) := by decide +kernel
theorem kd_X11_ask : aKd m_X11_ask 2 := ⟨wd_48_22, wd_1_2, ⟨by decide +kernel, by decide +kernel, by decide +kernel⟩⟩
set_option maxRecDepth 100000 in
set_option maxHeartbeats 4000000 in
theorem l_X11_ask_22   (σ : aSt) (o : Int32 × aSt) (h : f_X11_ask_22   σ = some o) : AW true m_X11_ask 22 [] [] σ 0 0 (some (.int o.1)) o.2 := by
  unfold f_X11_ask_22 at h
  refine w_ldc (v := (-1000001)) dX11_ask_22 wd_9_18 ?_
  obtain rfl := Option.some.inj h
  exact w_ireturn dX11_ask_24 rfl (Nat.le_of_ble_eq_true rfl) (Nat.le_of_ble_eq_true rfl)
set_option maxRecDepth 100000 in
set_option maxHeartbeats 4000000 in
theorem c_X11_ask (p1 : Int32) (p2 : Int32) (σ : aSt) (o : Int32 × aSt) (h : f_X11_ask p1 p2 σ = some o) : AM true m_X11_ask [va_rf (some (0)), .int (p1), .int (p2)] σ (some (.int o.1)) o.2 := by
  refine AM_of2 (lv := [(0, va_rf (some (0))), (1, Value.int (p1)), (2, Value.int (p2))]) (by decide +kernel) rfl (Nat.le_of_ble_eq_true rfl) ?_
  unfold f_X11_ask at h
  refine w_aload_n 0 ((some (0))) dX11_ask_0 rfl rfl ?_
  refine w_get (v := va_rf (some 2)) dX11_ask_1 fl_RX11_18 ⟨rfl, Or.inr ⟨rfl, by decide⟩⟩ (aFv_k rfl) ?_
  refine w_iload_n 1 dX11_ask_4 rfl rfl ?_
  replace h := e_bind h; obtain ⟨q1, e2, h⟩ := h
  refine w_callV1 (M2 := m_X3_find) (av := [.int (p1)]) (ci := 3) (c_X3_find _ _ _ e2) dX11_ask_5 kd_X3_find wd_13_20 wd_13_21 wd_13_22 rfl rfl ⟨rfl, Or.inr ⟨rfl, by decide⟩⟩ rfl ⟨Nat.le_of_ble_eq_true rfl, Nat.le_of_ble_eq_true rfl, Nat.le_of_ble_eq_true rfl, Nat.le_of_ble_eq_true rfl⟩ (Nat.le_of_ble_eq_true rfl) ?_
  refine w_astore_n dX11_ask_8 rfl (by decide) rfl ?_
  refine w_aload_n 0 (q1.1) dX11_ask_9 rfl rfl ?_
  replace h := e_oC h; rcases h with ⟨r13, h⟩ | ⟨a3, r13, h⟩
  · rw [r13]
    refine w_ifnull0 22 dX11_ask_10 (by decide) ?_
    refine w_sub [] rfl ?_
    exact l_X11_ask_22 _ _ h
  · rw [r13]
    refine w_ifnull1 dX11_ask_10 ?_
    refine w_iload_n 3 dX11_ask_13 rfl rfl ?_
    refine w_iconst (v := 0) dX11_ask_14 (by decide) ?_
    refine w_iconst (v := 1) dX11_ask_15 (by decide) ?_
    replace h := e_bind h; obtain ⟨q4, e5, h⟩ := h
    refine w_callS1 (M2 := m_X11_within) (av := [.int (p2), .int (0), .int (1)]) (c_X11_within _ _ _ _ _ e5) dX11_ask_16 kd_X11_within wd_9_22 wd_9_23 rfl rfl ⟨Nat.le_of_ble_eq_true rfl, Nat.le_of_ble_eq_true rfl, Nat.le_of_ble_eq_true rfl, Nat.le_of_ble_eq_true rfl⟩ (Nat.le_of_ble_eq_true rfl) ?_
    refine w_if_ne 25 dX11_ask_19 (by decide) (fun c6 => ?_) (fun c6 => ?_)
    · replace h := e_f c6 h
      refine w_aload_n 1 ((some (0))) dX11_ask_25 rfl rfl ?_
      refine w_get (v := va_rf (some 32)) dX11_ask_26 fl_RX11_66 ⟨rfl, Or.inr ⟨rfl, by decide⟩⟩ (aFv_k rfl) ?_
      refine w_iload_n 3 dX11_ask_29 rfl rfl ?_
      refine w_aload_n 0 ((some (a3))) dX11_ask_30 rfl rfl ?_
      refine w_aload_n 1 ((some (0))) dX11_ask_31 rfl rfl ?_
      refine w_get (v := va_rf (some 11)) dX11_ask_32 fl_RX11_43 ⟨rfl, Or.inr ⟨rfl, by decide⟩⟩ (aFv_k rfl) ?_
      refine w_aload_n 0 ((some (a3))) dX11_ask_35 rfl rfl ?_
      replace h := e_bind h; obtain ⟨q7, e8, h⟩ := h
      refine w_callV1 (M2 := m_X2_kindOf) (av := [va_rf (some (a3))]) (ci := 2) (c_X2_kindOf _ _ _ e8) dX11_ask_36 kd_X2_kindOf wd_47_20 wd_47_21 wd_47_22 rfl rfl ⟨rfl, Or.inr ⟨rfl, by decide⟩⟩ rfl ⟨Nat.le_of_ble_eq_true rfl, Nat.le_of_ble_eq_true rfl, Nat.le_of_ble_eq_true rfl, Nat.le_of_ble_eq_true rfl⟩ (Nat.le_of_ble_eq_true rfl) ?_
      refine w_aload_n 1 ((some (0))) dX11_ask_39 rfl rfl ?_
      refine w_get (v := va_rf (some 11)) dX11_ask_40 fl_RX11_43 ⟨rfl, Or.inr ⟨rfl, by decide⟩⟩ (aFv_k rfl) ?_
      refine w_aload_n 0 ((some (a3))) dX11_ask_43 rfl rfl ?_
      refine w_iconst (v := 0) dX11_ask_44 (by decide) ?_
      replace h := e_bind h; obtain ⟨q9, e10, h⟩ := h
      refine w_callV1 (M2 := m_X2_scoreOf) (av := [va_rf (some (a3)), .int (0)]) (ci := 2) (c_X2_scoreOf _ _ _ _ e10) dX11_ask_45 kd_X2_scoreOf wd_33_19 wd_33_20 wd_33_21 rfl rfl ⟨rfl, Or.inr ⟨rfl, by decide⟩⟩ rfl ⟨Nat.le_of_ble_eq_true rfl, Nat.le_of_ble_eq_true rfl, Nat.le_of_ble_eq_true rfl, Nat.le_of_ble_eq_true rfl⟩ (Nat.le_of_ble_eq_true rfl) ?_
      replace h := e_bind h; obtain ⟨q11, e12, h⟩ := h
      refine w_callV1 (M2 := m_X0_answer) (av := [.int (p2), va_rf (some (a3)), .int (q7.1), .int (q9.1)]) (ci := 0) (c_X0_answer _ _ _ _ _ _ e12) dX11_ask_48 kd_X0_answer wd_48_23 wd_49_0 wd_49_1 rfl rfl ⟨rfl, Or.inr ⟨rfl, by decide⟩⟩ rfl ⟨Nat.le_of_ble_eq_true rfl, Nat.le_of_ble_eq_true rfl, Nat.le_of_ble_eq_true rfl, Nat.le_of_ble_eq_true rfl⟩ (Nat.le_of_ble_eq_true rfl) ?_
      obtain rfl := Option.some.inj h
      exact w_ireturn dX11_ask_51 rfl (Nat.le_of_ble_eq_true rfl) (Nat.le_of_ble_eq_true rfl)
    · replace h := e_t c6 h
      refine w_sub [] rfl ?_
      exact l_X11_ask_22 _ _ h
theorem dX11_trace_0 : decode cX11_trace 0 = .ok (.iload_n 1, 1) := by decide +kernel
theorem dX11_trace_1 : decode cX11_trace 1 = .ok (.iconst 0, 1) := by decide +kernel
theorem dX11_trace_2 : decode cX11_trace 2 = .ok (.aload_n 0, 1) := by decide +kernel
theorem dX11_trace_3 : decode cX11_trace 3 = .ok (.getfield 66, 3) := by decide +kernel
theorem dX11_trace_6 : decode cX11_trace 6 = .ok (.getfield 324, 3) := by decide +kernel
theorem dX11_trace_9 : decode cX11_trace 9 = .ok (.iconst 1, 1) := by decide +kernel
theorem dX11_trace_10 : decode cX11_trace 10 = .ok (.isub, 1) := by decide +kernel
theorem dX11_trace_11 : decode cX11_trace 11 = .ok (.invokestatic 89, 3) := by decide +kernel
theorem dX11_trace_14 : decode cX11_trace 14 = .ok (.ifCond .eq 15, 3) := by decide +kernel
theorem dX11_trace_17 : decode cX11_trace 17 = .ok (.aload_n 0, 1) := by decide +kernel
theorem dX11_trace_18 : decode cX11_trace 18 = .ok (.getfield 66, 3) := by decide +kernel
theorem dX11_trace_21 : decode cX11_trace 21 = .ok (.getfield 327, 3) := by decide +kernel
theorem dX11_trace_24 : decode cX11_trace 24 = .ok (.iload_n 1, 1) := by decide +kernel
theorem dX11_trace_25 : decode cX11_trace 25 = .ok (.iaload, 1) := by decide +kernel
theorem dX11_trace_26 : decode cX11_trace 26 = .ok (.goto 5, 3) := by decide +kernel
theorem dX11_trace_29 : decode cX11_trace 29 = .ok (.ldc 171, 2) := by decide +kernel
theorem dX11_trace_31 : decode cX11_trace 31 = .ok (.ireturn, 1) := by decide +kernel
theorem kd_X11_trace : aKd m_X11_trace 1 := ⟨wd_50_10, wd_1_2, ⟨by decide +kernel, by decide +kernel, by decide +kernel⟩⟩
set_option maxRecDepth 100000 in
set_option maxHeartbeats 4000000 in
theorem l_X11_trace_31  (t0 : Int32) (σ : aSt) (o : Int32 × aSt) (h : f_X11_trace_31  t0 σ = some o) : AW true m_X11_trace 31 [] [.int (t0)] σ 0 0 (some (.int o.1)) o.2 := by
  unfold f_X11_trace_31 at h
  obtain rfl := Option.some.inj h
  exact w_ireturn dX11_trace_31 rfl (Nat.le_of_ble_eq_true rfl) (Nat.le_of_ble_eq_true rfl)
set_option maxRecDepth 100000 in
set_option maxHeartbeats 4000000 in
theorem c_X11_trace (p1 : Int32) (σ : aSt) (o : Int32 × aSt) (h : f_X11_trace p1 σ = some o) : AM true m_X11_trace [va_rf (some (0)), .int (p1)] σ (some (.int o.1)) o.2 := by
  refine AM_of2 (lv := [(0, va_rf (some (0))), (1, Value.int (p1))]) (by decide +kernel) rfl (Nat.le_of_ble_eq_true rfl) ?_
  unfold f_X11_trace at h
  refine w_iload_n 1 dX11_trace_0 rfl rfl ?_
  refine w_iconst (v := 0) dX11_trace_1 (by decide) ?_
  refine w_aload_n 0 ((some (0))) dX11_trace_2 rfl rfl ?_
  refine w_get (v := va_rf (some 32)) dX11_trace_3 fl_RX11_66 ⟨rfl, Or.inr ⟨rfl, by decide⟩⟩ (aFv_k rfl) ?_
  refine w_get dX11_trace_6 fl_RX11_324 ⟨rfl, Or.inr ⟨rfl, by decide⟩⟩ (aFv_i rfl) ?_
  refine w_iconst (v := 1) dX11_trace_9 (by decide) ?_
  refine w_isub dX11_trace_10 ?_
  replace h := e_bind h; obtain ⟨q1, e2, h⟩ := h
  refine w_callS1 (M2 := m_X11_within) (av := [.int (p1), .int (0), .int ((gI σ 32 1) - 1)]) (c_X11_within _ _ _ _ _ e2) dX11_trace_11 kd_X11_within wd_9_22 wd_9_23 rfl rfl ⟨Nat.le_of_ble_eq_true rfl, Nat.le_of_ble_eq_true rfl, Nat.le_of_ble_eq_true rfl, Nat.le_of_ble_eq_true rfl⟩ (Nat.le_of_ble_eq_true rfl) ?_
  refine w_if_eq 29 dX11_trace_14 (by decide) (fun c3 => ?_) (fun c3 => ?_)
  · replace h := e_t c3 h
    refine w_ldc (v := (-1000000)) dX11_trace_29 wd_17_7 ?_
    refine w_sub [] rfl ?_
    exact l_X11_trace_31 _ _ _ h
  · replace h := e_f c3 h
    refine w_aload_n 0 ((some (0))) dX11_trace_17 rfl rfl ?_
    refine w_get (v := va_rf (some 32)) dX11_trace_18 fl_RX11_66 ⟨rfl, Or.inr ⟨rfl, by decide⟩⟩ (aFv_k rfl) ?_
    refine w_get (v := va_rf (some 33)) dX11_trace_21 fl_RX11_327 ⟨rfl, Or.inr ⟨rfl, by decide⟩⟩ (aFv_k rfl) ?_
    refine w_iload_n 1 dX11_trace_24 rfl rfl ?_
    replace h := e_grd h; obtain ⟨b4, h⟩ := h
    refine w_iaload dX11_trace_25 ⟨rfl, Or.inr ⟨rfl, by decide⟩⟩ b4 ?_
    refine w_goto 31 dX11_trace_26 (by decide) ?_
    refine w_sub [] rfl ?_
    exact l_X11_trace_31 _ _ _ h
theorem dX11_sheetsThere_0 : decode cX11_sheetsThere 0 = .ok (.iconst 0, 1) := by decide +kernel
theorem dX11_sheetsThere_1 : decode cX11_sheetsThere 1 = .ok (.istore_n 1, 1) := by decide +kernel
theorem dX11_sheetsThere_2 : decode cX11_sheetsThere 2 = .ok (.iconst 0, 1) := by decide +kernel
theorem dX11_sheetsThere_3 : decode cX11_sheetsThere 3 = .ok (.istore_n 2, 1) := by decide +kernel
theorem dX11_sheetsThere_4 : decode cX11_sheetsThere 4 = .ok (.iload_n 2, 1) := by decide +kernel
theorem dX11_sheetsThere_5 : decode cX11_sheetsThere 5 = .ok (.bipush 8, 2) := by decide +kernel
theorem dX11_sheetsThere_7 : decode cX11_sheetsThere 7 = .ok (.if_icmp .ge 24, 3) := by decide +kernel
theorem dX11_sheetsThere_10 : decode cX11_sheetsThere 10 = .ok (.aload_n 0, 1) := by decide +kernel
theorem dX11_sheetsThere_11 : decode cX11_sheetsThere 11 = .ok (.getfield 11, 3) := by decide +kernel
theorem dX11_sheetsThere_14 : decode cX11_sheetsThere 14 = .ok (.iload_n 2, 1) := by decide +kernel
theorem dX11_sheetsThere_15 : decode cX11_sheetsThere 15 = .ok (.aaload, 1) := by decide +kernel
theorem dX11_sheetsThere_16 : decode cX11_sheetsThere 16 = .ok (.getfield 105, 3) := by decide +kernel
theorem dX11_sheetsThere_19 : decode cX11_sheetsThere 19 = .ok (.ifCond .eq 6, 3) := by decide +kernel
theorem dX11_sheetsThere_22 : decode cX11_sheetsThere 22 = .ok (.iinc 1 1, 3) := by decide +kernel
theorem dX11_sheetsThere_25 : decode cX11_sheetsThere 25 = .ok (.iinc 2 1, 3) := by decide +kernel
theorem dX11_sheetsThere_28 : decode cX11_sheetsThere 28 = .ok (.goto (-24), 3) := by decide +kernel
theorem dX11_sheetsThere_31 : decode cX11_sheetsThere 31 = .ok (.iload_n 1, 1) := by decide +kernel
theorem dX11_sheetsThere_32 : decode cX11_sheetsThere 32 = .ok (.ireturn, 1) := by decide +kernel
theorem kd_X11_sheetsThere : aKd m_X11_sheetsThere 0 := ⟨wd_51_1, wd_1_2, ⟨by decide +kernel, by decide +kernel, by decide +kernel⟩⟩
set_option maxRecDepth 100000 in
set_option maxHeartbeats 4000000 in
theorem l_X11_sheetsThere_25 (rec4 : Int32 → Int32 → aSt → Option (Int32 × aSt)) (hrec4 : ∀ (x1 : Int32) (x2 : Int32) (σ : aSt) (o : Int32 × aSt), rec4 x1 x2 σ = some o → AW true m_X11_sheetsThere 4 [(0, va_rf (some (0))), (1, Value.int (x1)), (2, Value.int (x2))] [] σ 0 0 (some (.int o.1)) o.2) (x1 : Int32) (x2 : Int32) (σ : aSt) (o : Int32 × aSt) (h : f_X11_sheetsThere_25 rec4 x1 x2 σ = some o) : AW true m_X11_sheetsThere 25 [(0, va_rf (some (0))), (1, Value.int (x1)), (2, Value.int (x2))] [] σ 0 0 (some (.int o.1)) o.2 := by
  unfold f_X11_sheetsThere_25 at h
  refine w_iinc (q := 2) (v := x2 + 1) dX11_sheetsThere_25 rfl rfl (by decide) rfl ?_
  refine w_goto 4 dX11_sheetsThere_28 (by decide) ?_
  refine w_sub [1, 2, 0] rfl ?_
  exact hrec4 _ _ _ _ h
set_option maxRecDepth 100000 in
set_option maxHeartbeats 4000000 in
theorem l_X11_sheetsThere_4_b (rec4 : Int32 → Int32 → aSt → Option (Int32 × aSt)) (hrec4 : ∀ (x1 : Int32) (x2 : Int32) (σ : aSt) (o : Int32 × aSt), rec4 x1 x2 σ = some o → AW true m_X11_sheetsThere 4 [(0, va_rf (some (0))), (1, Value.int (x1)), (2, Value.int (x2))] [] σ 0 0 (some (.int o.1)) o.2) (x1 : Int32) (x2 : Int32) (σ : aSt) (o : Int32 × aSt) (h : f_X11_sheetsThere_4_b rec4 x1 x2 σ = some o) : AW true m_X11_sheetsThere 4 [(0, va_rf (some (0))), (1, Value.int (x1)), (2, Value.int (x2))] [] σ 0 0 (some (.int o.1)) o.2 := by
  unfold f_X11_sheetsThere_4_b at h
  refine w_iload_n 2 dX11_sheetsThere_4 rfl rfl ?_
  refine w_bipush (v := 8) dX11_sheetsThere_5 (by decide) ?_
  refine w_icmp_ge 31 dX11_sheetsThere_7 (by decide) (fun c1 => ?_) (fun c1 => ?_)
  · replace h := e_t c1 h
    refine w_iload_n 1 dX11_sheetsThere_31 rfl rfl ?_
    obtain rfl := Option.some.inj h
    exact w_ireturn dX11_sheetsThere_32 rfl (Nat.le_of_ble_eq_true rfl) (Nat.le_of_ble_eq_true rfl)
  · replace h := e_f c1 h
    refine w_aload_n 0 ((some (0))) dX11_sheetsThere_10 rfl rfl ?_
    refine w_get (v := va_rf (some 1)) dX11_sheetsThere_11 fl_RX11_11 ⟨rfl, Or.inr ⟨rfl, by decide⟩⟩ (aFv_k rfl) ?_
    refine w_iload_n 2 dX11_sheetsThere_14 rfl rfl ?_
    replace h := e_grd h; obtain ⟨b2, h⟩ := h
    refine w_aaloadS dX11_sheetsThere_15 ⟨rfl, Or.inr ⟨rfl, by decide⟩⟩ b2 ?_
    replace h := e_grd h; obtain ⟨g3, h⟩ := h
    refine w_get dX11_sheetsThere_16 fl_RX11_105 ⟨g3.1, Or.inl g3.2⟩ (aFv_i rfl) ?_
    refine w_if_eq 25 dX11_sheetsThere_19 (by decide) (fun c4 => ?_) (fun c4 => ?_)
    · replace h := e_t c4 h
      exact l_X11_sheetsThere_25 rec4 hrec4 _ _ _ _ h
    · replace h := e_f c4 h
      refine w_iinc (q := 1) (v := x1 + 1) dX11_sheetsThere_22 rfl rfl (by decide) rfl ?_
      refine w_sub [1, 0, 2] rfl ?_
      exact l_X11_sheetsThere_25 rec4 hrec4 _ _ _ _ h
theorem l_X11_sheetsThere_4  : ∀ (n : Nat) (x1 : Int32) (x2 : Int32) (σ : aSt) (o : Int32 × aSt), f_X11_sheetsThere_4  n x1 x2 σ = some o → AW true m_X11_sheetsThere 4 [(0, va_rf (some (0))), (1, Value.int (x1)), (2, Value.int (x2))] [] σ 0 0 (some (.int o.1)) o.2
  | 0 => fun x1 x2 σ o h => by cases h
  | n + 1 => fun x1 x2 σ o h => l_X11_sheetsThere_4_b (f_X11_sheetsThere_4  n) (l_X11_sheetsThere_4  n) x1 x2 σ o h
set_option maxRecDepth 100000 in
set_option maxHeartbeats 4000000 in
theorem c_X11_sheetsThere  (σ : aSt) (o : Int32 × aSt) (h : f_X11_sheetsThere  σ = some o) : AM true m_X11_sheetsThere [va_rf (some (0))] σ (some (.int o.1)) o.2 := by
  refine AM_of2 (lv := [(0, va_rf (some (0)))]) (by decide +kernel) rfl (Nat.le_of_ble_eq_true rfl) ?_
  unfold f_X11_sheetsThere at h
  refine w_iconst (v := 0) dX11_sheetsThere_0 (by decide) ?_
  refine w_istore_n dX11_sheetsThere_1 rfl (by decide) rfl ?_
  refine w_iconst (v := 0) dX11_sheetsThere_2 (by decide) ?_
  refine w_istore_n dX11_sheetsThere_3 rfl (by decide) rfl ?_
  refine w_sub [2, 1, 0] rfl ?_
  exact l_X11_sheetsThere_4 aN _ _ _ _ h
theorem dX3_manyJudged_0 : decode cX3_manyJudged 0 = .ok (.iconst 0, 1) := by decide +kernel
theorem dX3_manyJudged_1 : decode cX3_manyJudged 1 = .ok (.istore_n 2, 1) := by decide +kernel
theorem dX3_manyJudged_2 : decode cX3_manyJudged 2 = .ok (.iconst 0, 1) := by decide +kernel
theorem dX3_manyJudged_3 : decode cX3_manyJudged 3 = .ok (.istore_n 3, 1) := by decide +kernel
theorem dX3_manyJudged_4 : decode cX3_manyJudged 4 = .ok (.iload_n 3, 1) := by decide +kernel
theorem dX3_manyJudged_5 : decode cX3_manyJudged 5 = .ok (.aload_n 0, 1) := by decide +kernel
theorem dX3_manyJudged_6 : decode cX3_manyJudged 6 = .ok (.getfield 20, 3) := by decide +kernel
theorem dX3_manyJudged_9 : decode cX3_manyJudged 9 = .ok (.if_icmp .ge 25, 3) := by decide +kernel
theorem dX3_manyJudged_12 : decode cX3_manyJudged 12 = .ok (.aload_n 0, 1) := by decide +kernel
theorem dX3_manyJudged_13 : decode cX3_manyJudged 13 = .ok (.getfield 17, 3) := by decide +kernel
theorem dX3_manyJudged_16 : decode cX3_manyJudged 16 = .ok (.iload_n 3, 1) := by decide +kernel
theorem dX3_manyJudged_17 : decode cX3_manyJudged 17 = .ok (.aaload, 1) := by decide +kernel
theorem dX3_manyJudged_18 : decode cX3_manyJudged 18 = .ok (.getfield 38, 3) := by decide +kernel
theorem dX3_manyJudged_21 : decode cX3_manyJudged 21 = .ok (.iload_n 1, 1) := by decide +kernel
theorem dX3_manyJudged_22 : decode cX3_manyJudged 22 = .ok (.if_icmp .ne 6, 3) := by decide +kernel
theorem dX3_manyJudged_25 : decode cX3_manyJudged 25 = .ok (.iinc 2 1, 3) := by decide +kernel
theorem dX3_manyJudged_28 : decode cX3_manyJudged 28 = .ok (.iinc 3 1, 3) := by decide +kernel
theorem dX3_manyJudged_31 : decode cX3_manyJudged 31 = .ok (.goto (-27), 3) := by decide +kernel
theorem dX3_manyJudged_34 : decode cX3_manyJudged 34 = .ok (.iload_n 2, 1) := by decide +kernel
theorem dX3_manyJudged_35 : decode cX3_manyJudged 35 = .ok (.ireturn, 1) := by decide +kernel
theorem kd_X3_manyJudged : aKd m_X3_manyJudged 1 := ⟨wd_51_5, wd_1_17, ⟨by decide +kernel, by decide +kernel, by decide +kernel⟩⟩
set_option maxRecDepth 100000 in
set_option maxHeartbeats 4000000 in
theorem l_X3_manyJudged_28 (rec4 : Int32 → Int32 → Int32 → aSt → Option (Int32 × aSt)) (hrec4 : ∀ (x1 : Int32) (x2 : Int32) (x3 : Int32) (σ : aSt) (o : Int32 × aSt), rec4 x1 x2 x3 σ = some o → AW true m_X3_manyJudged 4 [(0, va_rf (some (2))), (1, Value.int (x1)), (2, Value.int (x2)), (3, Value.int (x3))] [] σ 0 0 (some (.int o.1)) o.2) (x1 : Int32) (x2 : Int32) (x3 : Int32) (σ : aSt) (o : Int32 × aSt) (h : f_X3_manyJudged_28 rec4 x1 x2 x3 σ = some o) : AW true m_X3_manyJudged 28 [(0, va_rf (some (2))), (1, Value.int (x1)), (2, Value.int (x2)), (3, Value.int (x3))] [] σ 0 0 (some (.int o.1)) o.2 := by
  unfold f_X3_manyJudged_28 at h
  refine w_iinc (q := 3) (v := x3 + 1) dX3_manyJudged_28 rfl rfl (by decide) rfl ?_
  refine w_goto 4 dX3_manyJudged_31 (by decide) ?_
  refine w_sub [1, 2, 3, 0] rfl ?_
  exact hrec4 _ _ _ _ _ h
set_option maxRecDepth 100000 in
set_option maxHeartbeats 4000000 in
theorem l_X3_manyJudged_4_b (rec4 : Int32 → Int32 → Int32 → aSt → Option (Int32 × aSt)) (hrec4 : ∀ (x1 : Int32) (x2 : Int32) (x3 : Int32) (σ : aSt) (o : Int32 × aSt), rec4 x1 x2 x3 σ = some o → AW true m_X3_manyJudged 4 [(0, va_rf (some (2))), (1, Value.int (x1)), (2, Value.int (x2)), (3, Value.int (x3))] [] σ 0 0 (some (.int o.1)) o.2) (x1 : Int32) (x2 : Int32) (x3 : Int32) (σ : aSt) (o : Int32 × aSt) (h : f_X3_manyJudged_4_b rec4 x1 x2 x3 σ = some o) : AW true m_X3_manyJudged 4 [(0, va_rf (some (2))), (1, Value.int (x1)), (2, Value.int (x2)), (3, Value.int (x3))] [] σ 0 0 (some (.int o.1)) o.2 := by
  unfold f_X3_manyJudged_4_b at h
  refine w_iload_n 3 dX3_manyJudged_4 rfl rfl ?_
  refine w_aload_n 0 ((some (2))) dX3_manyJudged_5 rfl rfl ?_
  refine w_get dX3_manyJudged_6 fl_RX3_20 ⟨rfl, Or.inr ⟨rfl, by decide⟩⟩ (aFv_i rfl) ?_
  refine w_icmp_ge 34 dX3_manyJudged_9 (by decide) (fun c1 => ?_) (fun c1 => ?_)
  · replace h := e_t c1 h
    refine w_iload_n 2 dX3_manyJudged_34 rfl rfl ?_
    obtain rfl := Option.some.inj h
    exact w_ireturn dX3_manyJudged_35 rfl (Nat.le_of_ble_eq_true rfl) (Nat.le_of_ble_eq_true rfl)
  · replace h := e_f c1 h
    refine w_aload_n 0 ((some (2))) dX3_manyJudged_12 rfl rfl ?_
    refine w_get (v := va_rf (some 4)) dX3_manyJudged_13 fl_RX3_17 ⟨rfl, Or.inr ⟨rfl, by decide⟩⟩ (aFv_k rfl) ?_
    refine w_iload_n 3 dX3_manyJudged_16 rfl rfl ?_
    replace h := e_grd h; obtain ⟨b2, h⟩ := h
    refine w_aaloadP dX3_manyJudged_17 ⟨rfl, Or.inr ⟨rfl, by decide⟩⟩ b2 ?_
    replace h := e_oS h; obtain ⟨a3, r4, h⟩ := h
    rw [r4]
    replace h := e_grd h; obtain ⟨g5, h⟩ := h
    refine w_get dX3_manyJudged_18 fl_RX3_38 ⟨g5.1, Or.inl g5.2⟩ (aFv_i rfl) ?_
    refine w_iload_n 1 dX3_manyJudged_21 rfl rfl ?_
    refine w_icmp_ne 28 dX3_manyJudged_22 (by decide) (fun c6 => ?_) (fun c6 => ?_)
    · replace h := e_f c6 h
      exact l_X3_manyJudged_28 rec4 hrec4 _ _ _ _ _ h
    · replace h := e_t c6 h
      refine w_iinc (q := 2) (v := x2 + 1) dX3_manyJudged_25 rfl rfl (by decide) rfl ?_
      refine w_sub [1, 2, 0, 3] rfl ?_
      exact l_X3_manyJudged_28 rec4 hrec4 _ _ _ _ _ h
theorem l_X3_manyJudged_4  : ∀ (n : Nat) (x1 : Int32) (x2 : Int32) (x3 : Int32) (σ : aSt) (o : Int32 × aSt), f_X3_manyJudged_4  n x1 x2 x3 σ = some o → AW true m_X3_manyJudged 4 [(0, va_rf (some (2))), (1, Value.int (x1)), (2, Value.int (x2)), (3, Value.int (x3))] [] σ 0 0 (some (.int o.1)) o.2
  | 0 => fun x1 x2 x3 σ o h => by cases h
  | n + 1 => fun x1 x2 x3 σ o h => l_X3_manyJudged_4_b (f_X3_manyJudged_4  n) (l_X3_manyJudged_4  n) x1 x2 x3 σ o h
set_option maxRecDepth 100000 in
set_option maxHeartbeats 4000000 in
theorem c_X3_manyJudged (p1 : Int32) (σ : aSt) (o : Int32 × aSt) (h : f_X3_manyJudged p1 σ = some o) : AM true m_X3_manyJudged [va_rf (some (2)), .int (p1)] σ (some (.int o.1)) o.2 := by
  refine AM_of2 (lv := [(0, va_rf (some (2))), (1, Value.int (p1))]) (by decide +kernel) rfl (Nat.le_of_ble_eq_true rfl) ?_
  unfold f_X3_manyJudged at h
  refine w_iconst (v := 0) dX3_manyJudged_0 (by decide) ?_
  refine w_istore_n dX3_manyJudged_1 rfl (by decide) rfl ?_
  refine w_iconst (v := 0) dX3_manyJudged_2 (by decide) ?_
  refine w_istore_n dX3_manyJudged_3 rfl (by decide) rfl ?_
  refine w_sub [2, 3, 1, 0] rfl ?_
  exact l_X3_manyJudged_4 aN _ _ _ _ _ h
theorem dX11_count_0 : decode cX11_count 0 = .ok (.iload_n 1, 1) := by decide +kernel
theorem dX11_count_1 : decode cX11_count 1 = .ok (.tableswitch 132 0 7 #[47, 52, 60, 71, 89, 98, 109, 124], 47) := by decide +kernel
theorem dX11_count_48 : decode cX11_count 48 = .ok (.aload_n 0, 1) := by decide +kernel
theorem dX11_count_49 : decode cX11_count 49 = .ok (.invokevirtual 330, 3) := by decide +kernel
theorem dX11_count_52 : decode cX11_count 52 = .ok (.ireturn, 1) := by decide +kernel
theorem dX11_count_53 : decode cX11_count 53 = .ok (.aload_n 0, 1) := by decide +kernel
theorem dX11_count_54 : decode cX11_count 54 = .ok (.getfield 18, 3) := by decide +kernel
theorem dX11_count_57 : decode cX11_count 57 = .ok (.getfield 333, 3) := by decide +kernel
theorem dX11_count_60 : decode cX11_count 60 = .ok (.ireturn, 1) := by decide +kernel
theorem dX11_count_61 : decode cX11_count 61 = .ok (.aload_n 0, 1) := by decide +kernel
theorem dX11_count_62 : decode cX11_count 62 = .ok (.getfield 43, 3) := by decide +kernel
theorem dX11_count_65 : decode cX11_count 65 = .ok (.getfield 214, 3) := by decide +kernel
theorem dX11_count_68 : decode cX11_count 68 = .ok (.getfield 221, 3) := by decide +kernel
theorem dX11_count_71 : decode cX11_count 71 = .ok (.ireturn, 1) := by decide +kernel
theorem dX11_count_72 : decode cX11_count 72 = .ok (.aload_n 0, 1) := by decide +kernel
theorem dX11_count_73 : decode cX11_count 73 = .ok (.getfield 18, 3) := by decide +kernel
theorem dX11_count_76 : decode cX11_count 76 = .ok (.iconst 0, 1) := by decide +kernel
theorem dX11_count_77 : decode cX11_count 77 = .ok (.invokevirtual 334, 3) := by decide +kernel
theorem dX11_count_80 : decode cX11_count 80 = .ok (.aload_n 0, 1) := by decide +kernel
theorem dX11_count_81 : decode cX11_count 81 = .ok (.getfield 18, 3) := by decide +kernel
theorem dX11_count_84 : decode cX11_count 84 = .ok (.iconst 1, 1) := by decide +kernel
theorem dX11_count_85 : decode cX11_count 85 = .ok (.invokevirtual 334, 3) := by decide +kernel
theorem dX11_count_88 : decode cX11_count 88 = .ok (.iadd, 1) := by decide +kernel
theorem dX11_count_89 : decode cX11_count 89 = .ok (.ireturn, 1) := by decide +kernel
theorem dX11_count_90 : decode cX11_count 90 = .ok (.aload_n 0, 1) := by decide +kernel
theorem dX11_count_91 : decode cX11_count 91 = .ok (.getfield 18, 3) := by decide +kernel
theorem dX11_count_94 : decode cX11_count 94 = .ok (.iconst 1, 1) := by decide +kernel
theorem dX11_count_95 : decode cX11_count 95 = .ok (.invokevirtual 334, 3) := by decide +kernel
theorem dX11_count_98 : decode cX11_count 98 = .ok (.ireturn, 1) := by decide +kernel
theorem dX11_count_99 : decode cX11_count 99 = .ok (.aload_n 0, 1) := by decide +kernel
theorem dX11_count_100 : decode cX11_count 100 = .ok (.getfield 18, 3) := by decide +kernel
theorem dX11_count_103 : decode cX11_count 103 = .ok (.getfield 337, 3) := by decide +kernel
theorem dX11_count_106 : decode cX11_count 106 = .ok (.invokestatic 340, 3) := by decide +kernel
theorem dX11_count_109 : decode cX11_count 109 = .ok (.ireturn, 1) := by decide +kernel
theorem dX11_count_110 : decode cX11_count 110 = .ok (.aload_n 0, 1) := by decide +kernel
theorem dX11_count_111 : decode cX11_count 111 = .ok (.getfield 43, 3) := by decide +kernel
theorem dX11_count_114 : decode cX11_count 114 = .ok (.invokevirtual 249, 3) := by decide +kernel
theorem dX11_count_117 : decode cX11_count 117 = .ok (.aload_n 0, 1) := by decide +kernel
theorem dX11_count_118 : decode cX11_count 118 = .ok (.getfield 43, 3) := by decide +kernel
theorem dX11_count_121 : decode cX11_count 121 = .ok (.getfield 252, 3) := by decide +kernel
theorem dX11_count_124 : decode cX11_count 124 = .ok (.ireturn, 1) := by decide +kernel
theorem dX11_count_125 : decode cX11_count 125 = .ok (.aload_n 0, 1) := by decide +kernel
theorem dX11_count_126 : decode cX11_count 126 = .ok (.getfield 25, 3) := by decide +kernel
theorem dX11_count_129 : decode cX11_count 129 = .ok (.getfield 197, 3) := by decide +kernel
theorem dX11_count_132 : decode cX11_count 132 = .ok (.ireturn, 1) := by decide +kernel
theorem dX11_count_133 : decode cX11_count 133 = .ok (.ldc 93, 2) := by decide +kernel
theorem dX11_count_135 : decode cX11_count 135 = .ok (.ireturn, 1) := by decide +kernel
theorem kd_X11_count : aKd m_X11_count 1 := ⟨wd_50_20, wd_1_2, ⟨by decide +kernel, by decide +kernel, by decide +kernel⟩⟩
set_option maxRecDepth 100000 in
set_option maxHeartbeats 4000000 in
theorem c_X11_count (p1 : Int32) (σ : aSt) (o : Int32 × aSt) (h : f_X11_count p1 σ = some o) : AM true m_X11_count [va_rf (some (0)), .int (p1)] σ (some (.int o.1)) o.2 := by
  refine AM_of2 (lv := [(0, va_rf (some (0))), (1, Value.int (p1))]) (by decide +kernel) rfl (Nat.le_of_ble_eq_true rfl) ?_
  unfold f_X11_count at h
  refine w_iload_n 1 dX11_count_0 rfl rfl ?_
  replace h := e_ite h; rcases h with ⟨c1, h⟩ | ⟨c1, h⟩
  · subst c1
    refine w_tabIn (off := 47) 48 dX11_count_1 (by decide) (by decide) (by decide +kernel) (by decide) ?_
    refine w_aload_n 0 ((some (0))) dX11_count_48 rfl rfl ?_
    replace h := e_bind h; obtain ⟨q2, e3, h⟩ := h
    refine w_callV1 (M2 := m_X11_sheetsThere) (av := []) (ci := 11) (c_X11_sheetsThere  _ _ e3) dX11_count_49 kd_X11_sheetsThere wd_50_22 wd_50_23 wd_51_0 rfl rfl ⟨rfl, Or.inr ⟨rfl, by decide⟩⟩ rfl ⟨Nat.le_of_ble_eq_true rfl, Nat.le_of_ble_eq_true rfl, Nat.le_of_ble_eq_true rfl, Nat.le_of_ble_eq_true rfl⟩ (Nat.le_of_ble_eq_true rfl) ?_
    obtain rfl := Option.some.inj h
    exact w_ireturn dX11_count_52 rfl (Nat.le_of_ble_eq_true rfl) (Nat.le_of_ble_eq_true rfl)
  · replace h := e_ite h; rcases h with ⟨c4, h⟩ | ⟨c4, h⟩
    · subst c4
      refine w_tabIn (off := 52) 53 dX11_count_1 (by decide) (by decide) (by decide +kernel) (by decide) ?_
      refine w_aload_n 0 ((some (0))) dX11_count_53 rfl rfl ?_
      refine w_get (v := va_rf (some 2)) dX11_count_54 fl_RX11_18 ⟨rfl, Or.inr ⟨rfl, by decide⟩⟩ (aFv_k rfl) ?_
      refine w_get dX11_count_57 fl_RX11_333 ⟨rfl, Or.inr ⟨rfl, by decide⟩⟩ (aFv_i rfl) ?_
      obtain rfl := Option.some.inj h
      exact w_ireturn dX11_count_60 rfl (Nat.le_of_ble_eq_true rfl) (Nat.le_of_ble_eq_true rfl)
    · replace h := e_ite h; rcases h with ⟨c5, h⟩ | ⟨c5, h⟩
      · subst c5
        refine w_tabIn (off := 60) 61 dX11_count_1 (by decide) (by decide) (by decide +kernel) (by decide) ?_
        refine w_aload_n 0 ((some (0))) dX11_count_61 rfl rfl ?_
        refine w_get (v := va_rf (some 11)) dX11_count_62 fl_RX11_43 ⟨rfl, Or.inr ⟨rfl, by decide⟩⟩ (aFv_k rfl) ?_
        refine w_get dX11_count_65 fl_RX11_214 ⟨rfl, Or.inr ⟨rfl, by decide⟩⟩ (aFv_q (Or.inl rfl)) ?_
        replace h := e_oS h; obtain ⟨a6, r7, h⟩ := h
        rw [r7]
        replace h := e_grd h; obtain ⟨g8, h⟩ := h
        refine w_get dX11_count_68 fl_RX11_221 ⟨g8.1, Or.inl g8.2⟩ (aFv_i rfl) ?_
        obtain rfl := Option.some.inj h
        exact w_ireturn dX11_count_71 rfl (Nat.le_of_ble_eq_true rfl) (Nat.le_of_ble_eq_true rfl)
      · replace h := e_ite h; rcases h with ⟨c9, h⟩ | ⟨c9, h⟩
        · subst c9
          refine w_tabIn (off := 71) 72 dX11_count_1 (by decide) (by decide) (by decide +kernel) (by decide) ?_
          refine w_aload_n 0 ((some (0))) dX11_count_72 rfl rfl ?_
          refine w_get (v := va_rf (some 2)) dX11_count_73 fl_RX11_18 ⟨rfl, Or.inr ⟨rfl, by decide⟩⟩ (aFv_k rfl) ?_
          refine w_iconst (v := 0) dX11_count_76 (by decide) ?_
          replace h := e_bind h; obtain ⟨q10, e11, h⟩ := h
          refine w_callV1 (M2 := m_X3_manyJudged) (av := [.int (0)]) (ci := 3) (c_X3_manyJudged _ _ _ e11) dX11_count_77 kd_X3_manyJudged wd_51_2 wd_51_3 wd_51_4 rfl rfl ⟨rfl, Or.inr ⟨rfl, by decide⟩⟩ rfl ⟨Nat.le_of_ble_eq_true rfl, Nat.le_of_ble_eq_true rfl, Nat.le_of_ble_eq_true rfl, Nat.le_of_ble_eq_true rfl⟩ (Nat.le_of_ble_eq_true rfl) ?_
          refine w_aload_n 0 ((some (0))) dX11_count_80 rfl rfl ?_
          refine w_get (v := va_rf (some 2)) dX11_count_81 fl_RX11_18 ⟨rfl, Or.inr ⟨rfl, by decide⟩⟩ (aFv_k rfl) ?_
          refine w_iconst (v := 1) dX11_count_84 (by decide) ?_
          replace h := e_bind h; obtain ⟨q12, e13, h⟩ := h
          refine w_callV1 (M2 := m_X3_manyJudged) (av := [.int (1)]) (ci := 3) (c_X3_manyJudged _ _ _ e13) dX11_count_85 kd_X3_manyJudged wd_51_2 wd_51_3 wd_51_4 rfl rfl ⟨rfl, Or.inr ⟨rfl, by decide⟩⟩ rfl ⟨Nat.le_of_ble_eq_true rfl, Nat.le_of_ble_eq_true rfl, Nat.le_of_ble_eq_true rfl, Nat.le_of_ble_eq_true rfl⟩ (Nat.le_of_ble_eq_true rfl) ?_
          refine w_iadd dX11_count_88 ?_
          obtain rfl := Option.some.inj h
          exact w_ireturn dX11_count_89 rfl (Nat.le_of_ble_eq_true rfl) (Nat.le_of_ble_eq_true rfl)
        · replace h := e_ite h; rcases h with ⟨c14, h⟩ | ⟨c14, h⟩
          · subst c14
            refine w_tabIn (off := 89) 90 dX11_count_1 (by decide) (by decide) (by decide +kernel) (by decide) ?_
            refine w_aload_n 0 ((some (0))) dX11_count_90 rfl rfl ?_
            refine w_get (v := va_rf (some 2)) dX11_count_91 fl_RX11_18 ⟨rfl, Or.inr ⟨rfl, by decide⟩⟩ (aFv_k rfl) ?_
            refine w_iconst (v := 1) dX11_count_94 (by decide) ?_
            replace h := e_bind h; obtain ⟨q15, e16, h⟩ := h
            refine w_callV1 (M2 := m_X3_manyJudged) (av := [.int (1)]) (ci := 3) (c_X3_manyJudged _ _ _ e16) dX11_count_95 kd_X3_manyJudged wd_51_2 wd_51_3 wd_51_4 rfl rfl ⟨rfl, Or.inr ⟨rfl, by decide⟩⟩ rfl ⟨Nat.le_of_ble_eq_true rfl, Nat.le_of_ble_eq_true rfl, Nat.le_of_ble_eq_true rfl, Nat.le_of_ble_eq_true rfl⟩ (Nat.le_of_ble_eq_true rfl) ?_
            obtain rfl := Option.some.inj h
            exact w_ireturn dX11_count_98 rfl (Nat.le_of_ble_eq_true rfl) (Nat.le_of_ble_eq_true rfl)
          · replace h := e_ite h; rcases h with ⟨c17, h⟩ | ⟨c17, h⟩
            · subst c17
              refine w_tabIn (off := 98) 99 dX11_count_1 (by decide) (by decide) (by decide +kernel) (by decide) ?_
              refine w_aload_n 0 ((some (0))) dX11_count_99 rfl rfl ?_
              refine w_get (v := va_rf (some 2)) dX11_count_100 fl_RX11_18 ⟨rfl, Or.inr ⟨rfl, by decide⟩⟩ (aFv_k rfl) ?_
              refine w_get dX11_count_103 fl_RX11_337 ⟨rfl, Or.inr ⟨rfl, by decide⟩⟩ (aFv_i rfl) ?_
              replace h := e_bind h; obtain ⟨q18, e19, h⟩ := h
              refine w_callS1 (M2 := m_J6_bitCount_0f7a4) (av := [.int (gI σ 2 3)]) (c_J6_bitCount_0f7a4 _ _ _ e19) dX11_count_106 kd_J6_bitCount_0f7a4 wd_51_7 wd_19_23 rfl rfl ⟨Nat.le_of_ble_eq_true rfl, Nat.le_of_ble_eq_true rfl, Nat.le_of_ble_eq_true rfl, Nat.le_of_ble_eq_true rfl⟩ (Nat.le_of_ble_eq_true rfl) ?_
              obtain rfl := Option.some.inj h
              exact w_ireturn dX11_count_109 rfl (Nat.le_of_ble_eq_true rfl) (Nat.le_of_ble_eq_true rfl)
            · replace h := e_ite h; rcases h with ⟨c20, h⟩ | ⟨c20, h⟩
              · subst c20
                refine w_tabIn (off := 109) 110 dX11_count_1 (by decide) (by decide) (by decide +kernel) (by decide) ?_
                refine w_aload_n 0 ((some (0))) dX11_count_110 rfl rfl ?_
                refine w_get (v := va_rf (some 11)) dX11_count_111 fl_RX11_43 ⟨rfl, Or.inr ⟨rfl, by decide⟩⟩ (aFv_k rfl) ?_
                replace h := e_bind h; obtain ⟨q21, e22, h⟩ := h
                refine w_callV0 (M2 := m_X2_lineUp) (av := []) (ci := 2) (c_X2_lineUp  _ _ e22) dX11_count_114 kd_X2_lineUp wd_39_2 wd_39_3 wd_39_4 rfl rfl ⟨rfl, Or.inr ⟨rfl, by decide⟩⟩ rfl ⟨Nat.le_of_ble_eq_true rfl, Nat.le_of_ble_eq_true rfl, Nat.le_of_ble_eq_true rfl, Nat.le_of_ble_eq_true rfl⟩ (Nat.le_of_ble_eq_true rfl) ?_
                refine w_aload_n 0 ((some (0))) dX11_count_117 rfl rfl ?_
                refine w_get (v := va_rf (some 11)) dX11_count_118 fl_RX11_43 ⟨rfl, Or.inr ⟨rfl, by decide⟩⟩ (aFv_k rfl) ?_
                refine w_get dX11_count_121 fl_RX11_252 ⟨rfl, Or.inr ⟨rfl, by decide⟩⟩ (aFv_i rfl) ?_
                obtain rfl := Option.some.inj h
                exact w_ireturn dX11_count_124 rfl (Nat.le_of_ble_eq_true rfl) (Nat.le_of_ble_eq_true rfl)
              · replace h := e_ite h; rcases h with ⟨c23, h⟩ | ⟨c23, h⟩
                · subst c23
                  refine w_tabIn (off := 124) 125 dX11_count_1 (by decide) (by decide) (by decide +kernel) (by decide) ?_
                  refine w_aload_n 0 ((some (0))) dX11_count_125 rfl rfl ?_
                  refine w_get (v := va_rf (some 5)) dX11_count_126 fl_RX11_25 ⟨rfl, Or.inr ⟨rfl, by decide⟩⟩ (aFv_k rfl) ?_
                  refine w_get dX11_count_129 fl_RX11_197 ⟨rfl, Or.inr ⟨rfl, by decide⟩⟩ (aFv_i rfl) ?_
                  obtain rfl := Option.some.inj h
                  exact w_ireturn dX11_count_132 rfl (Nat.le_of_ble_eq_true rfl) (Nat.le_of_ble_eq_true rfl)
                · refine w_tabOut 133 dX11_count_1 (by have zc1 := lv_neT (a := 0) c1 (by decide); have zc4 := lv_neT (a := 1) c4 (by decide); have zc5 := lv_neT (a := 2) c5 (by decide); have zc9 := lv_neT (a := 3) c9 (by decide); have zc14 := lv_neT (a := 4) c14 (by decide); have zc17 := lv_neT (a := 5) c17 (by decide); have zc20 := lv_neT (a := 6) c20 (by decide); have zc23 := lv_neT (a := 7) c23 (by decide); omega) (by decide) ?_
                  refine w_ldc (v := (-1000001)) dX11_count_133 wd_9_18 ?_
                  obtain rfl := Option.some.inj h
                  exact w_ireturn dX11_count_135 rfl (Nat.le_of_ble_eq_true rfl) (Nat.le_of_ble_eq_true rfl)
theorem dX11_status_0 : decode cX11_status 0 = .ok (.aload_n 0, 1) := by decide +kernel
theorem dX11_status_1 : decode cX11_status 1 = .ok (.getfield 81, 3) := by decide +kernel
theorem dX11_status_4 : decode cX11_status 4 = .ok (.ireturn, 1) := by decide +kernel
theorem kd_X11_status : aKd m_X11_status 0 := ⟨wd_51_15, wd_1_2, ⟨by decide +kernel, by decide +kernel, by decide +kernel⟩⟩
set_option maxRecDepth 100000 in
set_option maxHeartbeats 4000000 in
theorem c_X11_status  (σ : aSt) (o : Int32 × aSt) (h : f_X11_status  σ = some o) : AM true m_X11_status [va_rf (some (0))] σ (some (.int o.1)) o.2 := by
  refine AM_of2 (lv := [(0, va_rf (some (0)))]) (by decide +kernel) rfl (Nat.le_of_ble_eq_true rfl) ?_
  unfold f_X11_status at h
  refine w_aload_n 0 ((some (0))) dX11_status_0 rfl rfl ?_
  refine w_get dX11_status_1 fl_RX11_81 ⟨rfl, Or.inr ⟨rfl, by decide⟩⟩ (aFv_i rfl) ?_
  obtain rfl := Option.some.inj h
  exact w_ireturn dX11_status_4 rfl (Nat.le_of_ble_eq_true rfl) (Nat.le_of_ble_eq_true rfl)
theorem dX12_in_0 : decode cX12_in 0 = .ok (.lload_n 0, 1) := by decide +kernel
theorem dX12_in_1 : decode cX12_in 1 = .ok (.lload_n 2, 1) := by decide +kernel
theorem dX12_in_2 : decode cX12_in 2 = .ok (.lcmp, 1) := by decide +kernel
theorem dX12_in_3 : decode cX12_in 3 = .ok (.ifCond .lt 14, 3) := by decide +kernel
theorem dX12_in_6 : decode cX12_in 6 = .ok (.lload_n 0, 1) := by decide +kernel
theorem dX12_in_7 : decode cX12_in 7 = .ok (.lload 4, 2) := by decide +kernel
theorem dX12_in_9 : decode cX12_in 9 = .ok (.lcmp, 1) := by decide +kernel
theorem dX12_in_10 : decode cX12_in 10 = .ok (.ifCond .gt 7, 3) := by decide +kernel
theorem dX12_in_13 : decode cX12_in 13 = .ok (.iconst 1, 1) := by decide +kernel
theorem dX12_in_14 : decode cX12_in 14 = .ok (.goto 4, 3) := by decide +kernel
theorem dX12_in_17 : decode cX12_in 17 = .ok (.iconst 0, 1) := by decide +kernel
theorem dX12_in_18 : decode cX12_in 18 = .ok (.ireturn, 1) := by decide +kernel
theorem kd_X12_in : aKd m_X12_in 3 := ⟨wd_11_5, wd_1_5, ⟨by decide +kernel, by decide +kernel, by decide +kernel⟩⟩
set_option maxRecDepth 100000 in
set_option maxHeartbeats 4000000 in
theorem l_X12_in_18  (t0 : Int32) (σ : aSt) (o : Int32 × aSt) (h : f_X12_in_18  t0 σ = some o) : AW true m_X12_in 18 [] [.int (t0)] σ 0 0 (some (.int o.1)) o.2 := by
  unfold f_X12_in_18 at h
  replace h := e_grd h; obtain ⟨g3, h⟩ := h
  obtain rfl := Option.some.inj h
  exact w_zreturn dX12_in_18 rfl (e_nz g3) (Nat.le_of_ble_eq_true rfl) (Nat.le_of_ble_eq_true rfl)
set_option maxRecDepth 100000 in
set_option maxHeartbeats 4000000 in
theorem l_X12_in_17   (σ : aSt) (o : Int32 × aSt) (h : f_X12_in_17   σ = some o) : AW true m_X12_in 17 [] [] σ 0 0 (some (.int o.1)) o.2 := by
  unfold f_X12_in_17 at h
  refine w_iconst (v := 0) dX12_in_17 (by decide) ?_
  exact l_X12_in_18 _ _ _ h
set_option maxRecDepth 100000 in
set_option maxHeartbeats 4000000 in
theorem c_X12_in (p0 : Int64) (p2 : Int64) (p4 : Int64) (σ : aSt) (o : Int32 × aSt) (h : f_X12_in p0 p2 p4 σ = some o) : AM true m_X12_in [.long (p0), .long (p2), .long (p4)] σ (some (.int o.1)) o.2 := by
  refine AM_of2 (lv := [(0, Value.long (p0)), (2, Value.long (p2)), (4, Value.long (p4))]) (by decide +kernel) rfl (Nat.le_of_ble_eq_true rfl) ?_
  unfold f_X12_in at h
  refine w_lload_n 0 dX12_in_0 rfl rfl ?_
  refine w_lload_n 1 dX12_in_1 rfl rfl ?_
  refine w_lcmp dX12_in_2 ?_
  refine w_if_lt 17 dX12_in_3 (by decide) (fun c1 => ?_) (fun c1 => ?_)
  · replace h := e_t c1 h
    refine w_sub [] rfl ?_
    exact l_X12_in_17 _ _ h
  · replace h := e_f c1 h
    refine w_lload_n 0 dX12_in_6 rfl rfl ?_
    refine w_lload 2 dX12_in_7 rfl ?_
    refine w_lcmp dX12_in_9 ?_
    refine w_if_gt 17 dX12_in_10 (by decide) (fun c2 => ?_) (fun c2 => ?_)
    · replace h := e_t c2 h
      refine w_sub [] rfl ?_
      exact l_X12_in_17 _ _ h
    · replace h := e_f c2 h
      refine w_iconst (v := 1) dX12_in_13 (by decide) ?_
      refine w_goto 18 dX12_in_14 (by decide) ?_
      refine w_sub [] rfl ?_
      exact l_X12_in_18 _ _ _ h
theorem dX12_isSheet_0 : decode cX12_isSheet 0 = .ok (.iload_n 0, 1) := by decide +kernel
theorem dX12_isSheet_1 : decode cX12_isSheet 1 = .ok (.i2l, 1) := by decide +kernel
theorem dX12_isSheet_2 : decode cX12_isSheet 2 = .ok (.lconst 0, 1) := by decide +kernel
theorem dX12_isSheet_3 : decode cX12_isSheet 3 = .ok (.ldc2_w 109, 3) := by decide +kernel
theorem dX12_isSheet_6 : decode cX12_isSheet 6 = .ok (.invokestatic 111, 3) := by decide +kernel
theorem dX12_isSheet_9 : decode cX12_isSheet 9 = .ok (.ireturn, 1) := by decide +kernel
theorem kd_X12_isSheet : aKd m_X12_isSheet 1 := ⟨wd_11_1, wd_1_5, ⟨by decide +kernel, by decide +kernel, by decide +kernel⟩⟩
set_option maxRecDepth 100000 in
set_option maxHeartbeats 4000000 in
theorem c_X12_isSheet (p0 : Int32) (σ : aSt) (o : Int32 × aSt) (h : f_X12_isSheet p0 σ = some o) : AM true m_X12_isSheet [.int (p0)] σ (some (.int o.1)) o.2 := by
  refine AM_of2 (lv := [(0, Value.int (p0))]) (by decide +kernel) rfl (Nat.le_of_ble_eq_true rfl) ?_
  unfold f_X12_isSheet at h
  refine w_iload_n 0 dX12_isSheet_0 rfl rfl ?_
  refine w_i2l dX12_isSheet_1 ?_
  refine w_lconst (v := 0) dX12_isSheet_2 (by decide) ?_
  refine w_ldc2 (v := 7) dX12_isSheet_3 wd_11_2 ?_
  replace h := e_bind h; obtain ⟨q1, e2, h⟩ := h
  refine w_callS1 (M2 := m_X12_in) (av := [.long (p0.toInt64), .long (0), .long (7)]) (c_X12_in _ _ _ _ _ e2) dX12_isSheet_6 kd_X12_in wd_11_3 wd_11_4 rfl rfl ⟨Nat.le_of_ble_eq_true rfl, Nat.le_of_ble_eq_true rfl, Nat.le_of_ble_eq_true rfl, Nat.le_of_ble_eq_true rfl⟩ (Nat.le_of_ble_eq_true rfl) ?_
  replace h := e_grd h; obtain ⟨g3, h⟩ := h
  obtain rfl := Option.some.inj h
  exact w_zreturn dX12_isSheet_9 rfl (e_nz g3) (Nat.le_of_ble_eq_true rfl) (Nat.le_of_ble_eq_true rfl)
theorem dX12_found_0 : decode cX12_found 0 = .ok (.aload_n 0, 1) := by decide +kernel
theorem dX12_found_1 : decode cX12_found 1 = .ok (.iload_n 1, 1) := by decide +kernel
theorem dX12_found_2 : decode cX12_found 2 = .ok (.putfield 105, 3) := by decide +kernel
theorem dX12_found_5 : decode cX12_found 5 = .ok (.ldc 108, 2) := by decide +kernel
theorem dX12_found_7 : decode cX12_found 7 = .ok (.iload_n 1, 1) := by decide +kernel
theorem dX12_found_8 : decode cX12_found 8 = .ok (.isub, 1) := by decide +kernel
theorem dX12_found_9 : decode cX12_found 9 = .ok (.ireturn, 1) := by decide +kernel
theorem kd_X12_found : aKd m_X12_found 1 := ⟨wd_11_9, wd_1_5, ⟨by decide +kernel, by decide +kernel, by decide +kernel⟩⟩
set_option maxRecDepth 100000 in
set_option maxHeartbeats 4000000 in
theorem c_X12_found (p1 : Int32) (σ : aSt) (o : Int32 × aSt) (h : f_X12_found p1 σ = some o) : AM true m_X12_found [va_rf (some (57)), .int (p1)] σ (some (.int o.1)) o.2 := by
  refine AM_of2 (lv := [(0, va_rf (some (57))), (1, Value.int (p1))]) (by decide +kernel) rfl (Nat.le_of_ble_eq_true rfl) ?_
  unfold f_X12_found at h
  refine w_aload_n 0 ((some (57))) dX12_found_0 rfl rfl ?_
  refine w_iload_n 1 dX12_found_1 rfl rfl ?_
  refine w_putI dX12_found_2 fl_RX12_105 (Or.inl rfl) rfl ⟨rfl, Or.inr ⟨rfl, by decide⟩⟩ ?_
  refine w_ldc (v := (-1000010)) dX12_found_5 wd_11_10 ?_
  refine w_iload_n 1 dX12_found_7 rfl rfl ?_
  refine w_isub dX12_found_8 ?_
  obtain rfl := Option.some.inj h
  exact w_ireturn dX12_found_9 rfl (Nat.le_of_ble_eq_true rfl) (Nat.le_of_ble_eq_true rfl)
theorem dX12_sheet_0 : decode cX12_sheet 0 = .ok (.aload_n 0, 1) := by decide +kernel
theorem dX12_sheet_1 : decode cX12_sheet 1 = .ok (.iconst 0, 1) := by decide +kernel
theorem dX12_sheet_2 : decode cX12_sheet 2 = .ok (.putfield 102, 3) := by decide +kernel
theorem dX12_sheet_5 : decode cX12_sheet 5 = .ok (.iload_n 1, 1) := by decide +kernel
theorem dX12_sheet_6 : decode cX12_sheet 6 = .ok (.invokestatic 115, 3) := by decide +kernel
theorem dX12_sheet_9 : decode cX12_sheet 9 = .ok (.ifCond .eq 21, 3) := by decide +kernel
theorem dX12_sheet_12 : decode cX12_sheet 12 = .ok (.iload_n 2, 1) := by decide +kernel
theorem dX12_sheet_13 : decode cX12_sheet 13 = .ok (.i2l, 1) := by decide +kernel
theorem dX12_sheet_14 : decode cX12_sheet 14 = .ok (.lconst 0, 1) := by decide +kernel
theorem dX12_sheet_15 : decode cX12_sheet 15 = .ok (.ldc2_w 119, 3) := by decide +kernel
theorem dX12_sheet_18 : decode cX12_sheet 18 = .ok (.invokestatic 111, 3) := by decide +kernel
theorem dX12_sheet_21 : decode cX12_sheet 21 = .ok (.ifCond .eq 9, 3) := by decide +kernel
theorem dX12_sheet_24 : decode cX12_sheet 24 = .ok (.iload_n 3, 1) := by decide +kernel
theorem dX12_sheet_25 : decode cX12_sheet 25 = .ok (.bipush 120, 2) := by decide +kernel
theorem dX12_sheet_27 : decode cX12_sheet 27 = .ok (.if_icmp .le 6, 3) := by decide +kernel
theorem dX12_sheet_30 : decode cX12_sheet 30 = .ok (.ldc 121, 2) := by decide +kernel
theorem dX12_sheet_32 : decode cX12_sheet 32 = .ok (.ireturn, 1) := by decide +kernel
theorem dX12_sheet_33 : decode cX12_sheet 33 = .ok (.aload_n 0, 1) := by decide +kernel
theorem dX12_sheet_34 : decode cX12_sheet 34 = .ok (.iconst 0, 1) := by decide +kernel
theorem dX12_sheet_35 : decode cX12_sheet 35 = .ok (.putfield 105, 3) := by decide +kernel
theorem dX12_sheet_38 : decode cX12_sheet 38 = .ok (.iload_n 3, 1) := by decide +kernel
theorem dX12_sheet_39 : decode cX12_sheet 39 = .ok (.ifCond .ge 9, 3) := by decide +kernel
theorem dX12_sheet_42 : decode cX12_sheet 42 = .ok (.aload_n 0, 1) := by decide +kernel
theorem dX12_sheet_43 : decode cX12_sheet 43 = .ok (.iconst 4, 1) := by decide +kernel
theorem dX12_sheet_44 : decode cX12_sheet 44 = .ok (.invokevirtual 122, 3) := by decide +kernel
theorem dX12_sheet_47 : decode cX12_sheet 47 = .ok (.ireturn, 1) := by decide +kernel
theorem dX12_sheet_48 : decode cX12_sheet 48 = .ok (.aload_n 0, 1) := by decide +kernel
theorem dX12_sheet_49 : decode cX12_sheet 49 = .ok (.getfield 7, 3) := by decide +kernel
theorem dX12_sheet_52 : decode cX12_sheet 52 = .ok (.iload_n 1, 1) := by decide +kernel
theorem dX12_sheet_53 : decode cX12_sheet 53 = .ok (.iload_n 2, 1) := by decide +kernel
theorem dX12_sheet_54 : decode cX12_sheet 54 = .ok (.iastore, 1) := by decide +kernel
theorem dX12_sheet_55 : decode cX12_sheet 55 = .ok (.aload_n 0, 1) := by decide +kernel
theorem dX12_sheet_56 : decode cX12_sheet 56 = .ok (.getfield 13, 3) := by decide +kernel
theorem dX12_sheet_59 : decode cX12_sheet 59 = .ok (.iload_n 1, 1) := by decide +kernel
theorem dX12_sheet_60 : decode cX12_sheet 60 = .ok (.iload_n 3, 1) := by decide +kernel
theorem dX12_sheet_61 : decode cX12_sheet 61 = .ok (.iastore, 1) := by decide +kernel
theorem dX12_sheet_62 : decode cX12_sheet 62 = .ok (.iconst 0, 1) := by decide +kernel
theorem dX12_sheet_63 : decode cX12_sheet 63 = .ok (.istore 4, 2) := by decide +kernel
theorem dX12_sheet_65 : decode cX12_sheet 65 = .ok (.iload 4, 2) := by decide +kernel
theorem dX12_sheet_67 : decode cX12_sheet 67 = .ok (.bipush 120, 2) := by decide +kernel
theorem dX12_sheet_69 : decode cX12_sheet 69 = .ok (.if_icmp .ge 22, 3) := by decide +kernel
theorem dX12_sheet_72 : decode cX12_sheet 72 = .ok (.aload_n 0, 1) := by decide +kernel
theorem dX12_sheet_73 : decode cX12_sheet 73 = .ok (.getfield 16, 3) := by decide +kernel
theorem dX12_sheet_76 : decode cX12_sheet 76 = .ok (.bipush 120, 2) := by decide +kernel
theorem dX12_sheet_78 : decode cX12_sheet 78 = .ok (.iload_n 1, 1) := by decide +kernel
theorem dX12_sheet_79 : decode cX12_sheet 79 = .ok (.imul, 1) := by decide +kernel
theorem dX12_sheet_80 : decode cX12_sheet 80 = .ok (.iload 4, 2) := by decide +kernel
theorem dX12_sheet_82 : decode cX12_sheet 82 = .ok (.iadd, 1) := by decide +kernel
theorem dX12_sheet_83 : decode cX12_sheet 83 = .ok (.iconst 0, 1) := by decide +kernel
theorem dX12_sheet_84 : decode cX12_sheet 84 = .ok (.iastore, 1) := by decide +kernel
theorem dX12_sheet_85 : decode cX12_sheet 85 = .ok (.iinc 4 1, 3) := by decide +kernel
theorem dX12_sheet_88 : decode cX12_sheet 88 = .ok (.goto (-23), 3) := by decide +kernel
theorem dX12_sheet_91 : decode cX12_sheet 91 = .ok (.iload_n 3, 1) := by decide +kernel
theorem dX12_sheet_92 : decode cX12_sheet 92 = .ok (.ireturn, 1) := by decide +kernel
theorem kd_X12_sheet : aKd m_X12_sheet 3 := ⟨wd_10_18, wd_1_5, ⟨by decide +kernel, by decide +kernel, by decide +kernel⟩⟩
set_option maxRecDepth 100000 in
set_option maxHeartbeats 4000000 in
theorem l_X12_sheet_30   (σ : aSt) (o : Int32 × aSt) (h : f_X12_sheet_30   σ = some o) : AW true m_X12_sheet 30 [] [] σ 0 0 (some (.int o.1)) o.2 := by
  unfold f_X12_sheet_30 at h
  refine w_ldc (v := (-1000001)) dX12_sheet_30 wd_10_21 ?_
  obtain rfl := Option.some.inj h
  exact w_ireturn dX12_sheet_32 rfl (Nat.le_of_ble_eq_true rfl) (Nat.le_of_ble_eq_true rfl)
set_option maxRecDepth 100000 in
set_option maxHeartbeats 4000000 in
theorem l_X12_sheet_65_b (rec65 : Int32 → Int32 → Int32 → aSt → Option (Int32 × aSt)) (hrec65 : ∀ (x1 : Int32) (x3 : Int32) (x4 : Int32) (σ : aSt) (o : Int32 × aSt), rec65 x1 x3 x4 σ = some o → AW true m_X12_sheet 65 [(0, va_rf (some (57))), (1, Value.int (x1)), (3, Value.int (x3)), (4, Value.int (x4))] [] σ 0 0 (some (.int o.1)) o.2) (x1 : Int32) (x3 : Int32) (x4 : Int32) (σ : aSt) (o : Int32 × aSt) (h : f_X12_sheet_65_b rec65 x1 x3 x4 σ = some o) : AW true m_X12_sheet 65 [(0, va_rf (some (57))), (1, Value.int (x1)), (3, Value.int (x3)), (4, Value.int (x4))] [] σ 0 0 (some (.int o.1)) o.2 := by
  unfold f_X12_sheet_65_b at h
  refine w_iload 3 dX12_sheet_65 rfl ?_
  refine w_bipush (v := 120) dX12_sheet_67 (by decide) ?_
  refine w_icmp_ge 91 dX12_sheet_69 (by decide) (fun c13 => ?_) (fun c13 => ?_)
  · replace h := e_t c13 h
    refine w_iload_n 2 dX12_sheet_91 rfl rfl ?_
    obtain rfl := Option.some.inj h
    exact w_ireturn dX12_sheet_92 rfl (Nat.le_of_ble_eq_true rfl) (Nat.le_of_ble_eq_true rfl)
  · replace h := e_f c13 h
    refine w_aload_n 0 ((some (57))) dX12_sheet_72 rfl rfl ?_
    refine w_get (v := va_rf (some 60)) dX12_sheet_73 fl_RX12_16 ⟨rfl, Or.inr ⟨rfl, by decide⟩⟩ (aFv_k rfl) ?_
    refine w_bipush (v := 120) dX12_sheet_76 (by decide) ?_
    refine w_iload_n 1 dX12_sheet_78 rfl rfl ?_
    refine w_imul dX12_sheet_79 ?_
    refine w_iload 3 dX12_sheet_80 rfl ?_
    refine w_iadd dX12_sheet_82 ?_
    refine w_iconst (v := 0) dX12_sheet_83 (by decide) ?_
    replace h := e_grd h; obtain ⟨b14, h⟩ := h
    refine w_iastore dX12_sheet_84 ⟨rfl, Or.inr ⟨rfl, by decide⟩⟩ b14 ?_
    refine w_iinc (q := 3) (v := x4 + 1) dX12_sheet_85 rfl rfl (by decide) rfl ?_
    refine w_goto 65 dX12_sheet_88 (by decide) ?_
    refine w_sub [1, 2, 3, 0] rfl ?_
    exact hrec65 _ _ _ _ _ h
theorem l_X12_sheet_65  : ∀ (n : Nat) (x1 : Int32) (x3 : Int32) (x4 : Int32) (σ : aSt) (o : Int32 × aSt), f_X12_sheet_65  n x1 x3 x4 σ = some o → AW true m_X12_sheet 65 [(0, va_rf (some (57))), (1, Value.int (x1)), (3, Value.int (x3)), (4, Value.int (x4))] [] σ 0 0 (some (.int o.1)) o.2
  | 0 => fun x1 x3 x4 σ o h => by cases h
  | n + 1 => fun x1 x3 x4 σ o h => l_X12_sheet_65_b (f_X12_sheet_65  n) (l_X12_sheet_65  n) x1 x3 x4 σ o h
set_option maxRecDepth 100000 in
set_option maxHeartbeats 4000000 in
theorem l_X12_sheet_62  (x1 : Int32) (x3 : Int32) (σ : aSt) (o : Int32 × aSt) (h : f_X12_sheet_62  x1 x3 σ = some o) : AW true m_X12_sheet 62 [(0, va_rf (some (57))), (1, Value.int (x1)), (3, Value.int (x3))] [] σ 0 0 (some (.int o.1)) o.2 := by
  unfold f_X12_sheet_62 at h
  refine w_iconst (v := 0) dX12_sheet_62 (by decide) ?_
  refine w_istore dX12_sheet_63 (by decide) rfl ?_
  refine w_sub [1, 2, 3, 0] rfl ?_
  exact l_X12_sheet_65 aN _ _ _ _ _ h
set_option maxRecDepth 100000 in
set_option maxHeartbeats 4000000 in
theorem c_X12_sheet (p1 : Int32) (p2 : Int32) (p3 : Int32) (σ : aSt) (o : Int32 × aSt) (h : f_X12_sheet p1 p2 p3 σ = some o) : AM true m_X12_sheet [va_rf (some (57)), .int (p1), .int (p2), .int (p3)] σ (some (.int o.1)) o.2 := by
  refine AM_of2 (lv := [(0, va_rf (some (57))), (1, Value.int (p1)), (2, Value.int (p2)), (3, Value.int (p3))]) (by decide +kernel) rfl (Nat.le_of_ble_eq_true rfl) ?_
  unfold f_X12_sheet at h
  refine w_aload_n 0 ((some (57))) dX12_sheet_0 rfl rfl ?_
  refine w_iconst (v := 0) dX12_sheet_1 (by decide) ?_
  refine w_putI dX12_sheet_2 fl_RX12_102 (Or.inl rfl) rfl ⟨rfl, Or.inr ⟨rfl, by decide⟩⟩ ?_
  refine w_iload_n 1 dX12_sheet_5 rfl rfl ?_
  replace h := e_bind h; obtain ⟨q1, e2, h⟩ := h
  refine w_callS1 (M2 := m_X12_isSheet) (av := [.int (p1)]) (c_X12_isSheet _ _ _ e2) dX12_sheet_6 kd_X12_isSheet wd_10_23 wd_11_0 rfl rfl ⟨Nat.le_of_ble_eq_true rfl, Nat.le_of_ble_eq_true rfl, Nat.le_of_ble_eq_true rfl, Nat.le_of_ble_eq_true rfl⟩ (Nat.le_of_ble_eq_true rfl) ?_
  refine w_if_eq 30 dX12_sheet_9 (by decide) (fun c3 => ?_) (fun c3 => ?_)
  · replace h := e_t c3 h
    refine w_sub [] rfl ?_
    exact l_X12_sheet_30 _ _ h
  · replace h := e_f c3 h
    refine w_iload_n 2 dX12_sheet_12 rfl rfl ?_
    refine w_i2l dX12_sheet_13 ?_
    refine w_lconst (v := 0) dX12_sheet_14 (by decide) ?_
    refine w_ldc2 (v := 2) dX12_sheet_15 wd_10_20 ?_
    replace h := e_bind h; obtain ⟨q4, e5, h⟩ := h
    refine w_callS1 (M2 := m_X12_in) (av := [.long (p2.toInt64), .long (0), .long (2)]) (c_X12_in _ _ _ _ _ e5) dX12_sheet_18 kd_X12_in wd_11_3 wd_11_4 rfl rfl ⟨Nat.le_of_ble_eq_true rfl, Nat.le_of_ble_eq_true rfl, Nat.le_of_ble_eq_true rfl, Nat.le_of_ble_eq_true rfl⟩ (Nat.le_of_ble_eq_true rfl) ?_
    refine w_if_eq 30 dX12_sheet_21 (by decide) (fun c6 => ?_) (fun c6 => ?_)
    · replace h := e_t c6 h
      refine w_sub [] rfl ?_
      exact l_X12_sheet_30 _ _ h
    · replace h := e_f c6 h
      refine w_iload_n 3 dX12_sheet_24 rfl rfl ?_
      refine w_bipush (v := 120) dX12_sheet_25 (by decide) ?_
      refine w_icmp_le 33 dX12_sheet_27 (by decide) (fun c7 => ?_) (fun c7 => ?_)
      · replace h := e_t c7 h
        refine w_aload_n 0 ((some (57))) dX12_sheet_33 rfl rfl ?_
        refine w_iconst (v := 0) dX12_sheet_34 (by decide) ?_
        refine w_putI dX12_sheet_35 fl_RX12_105 (Or.inl rfl) rfl ⟨rfl, Or.inr ⟨rfl, by decide⟩⟩ ?_
        refine w_iload_n 3 dX12_sheet_38 rfl rfl ?_
        refine w_if_ge 48 dX12_sheet_39 (by decide) (fun c8 => ?_) (fun c8 => ?_)
        · replace h := e_t c8 h
          refine w_aload_n 0 ((some (57))) dX12_sheet_48 rfl rfl ?_
          refine w_get (v := va_rf (some 58)) dX12_sheet_49 fl_RX12_7 ⟨rfl, Or.inr ⟨rfl, by decide⟩⟩ (aFv_k rfl) ?_
          refine w_iload_n 1 dX12_sheet_52 rfl rfl ?_
          refine w_iload_n 2 dX12_sheet_53 rfl rfl ?_
          replace h := e_grd h; obtain ⟨b9, h⟩ := h
          refine w_iastore dX12_sheet_54 ⟨rfl, Or.inr ⟨rfl, by decide⟩⟩ b9 ?_
          refine w_aload_n 0 ((some (57))) dX12_sheet_55 rfl rfl ?_
          refine w_get (v := va_rf (some 59)) dX12_sheet_56 fl_RX12_13 ⟨rfl, Or.inr ⟨rfl, by decide⟩⟩ (aFv_k rfl) ?_
          refine w_iload_n 1 dX12_sheet_59 rfl rfl ?_
          refine w_iload_n 3 dX12_sheet_60 rfl rfl ?_
          replace h := e_grd h; obtain ⟨b10, h⟩ := h
          refine w_iastore dX12_sheet_61 ⟨rfl, Or.inr ⟨rfl, by decide⟩⟩ b10 ?_
          refine w_sub [0, 1, 3] rfl ?_
          exact l_X12_sheet_62 _ _ _ _ h
        · replace h := e_f c8 h
          refine w_aload_n 0 ((some (57))) dX12_sheet_42 rfl rfl ?_
          refine w_iconst (v := 4) dX12_sheet_43 (by decide) ?_
          replace h := e_bind h; obtain ⟨q11, e12, h⟩ := h
          refine w_callV1 (M2 := m_X12_found) (av := [.int (4)]) (ci := 12) (c_X12_found _ _ _ e12) dX12_sheet_44 kd_X12_found wd_11_6 wd_11_7 wd_11_8 rfl rfl ⟨rfl, Or.inr ⟨rfl, by decide⟩⟩ rfl ⟨Nat.le_of_ble_eq_true rfl, Nat.le_of_ble_eq_true rfl, Nat.le_of_ble_eq_true rfl, Nat.le_of_ble_eq_true rfl⟩ (Nat.le_of_ble_eq_true rfl) ?_
          obtain rfl := Option.some.inj h
          exact w_ireturn dX12_sheet_47 rfl (Nat.le_of_ble_eq_true rfl) (Nat.le_of_ble_eq_true rfl)
      · replace h := e_f c7 h
        refine w_sub [] rfl ?_
        exact l_X12_sheet_30 _ _ h
theorem dX12_set_0 : decode cX12_set 0 = .ok (.aload_n 0, 1) := by decide +kernel
theorem dX12_set_1 : decode cX12_set 1 = .ok (.iconst 0, 1) := by decide +kernel
theorem dX12_set_2 : decode cX12_set 2 = .ok (.putfield 102, 3) := by decide +kernel
theorem dX12_set_5 : decode cX12_set 5 = .ok (.iload_n 1, 1) := by decide +kernel
theorem dX12_set_6 : decode cX12_set 6 = .ok (.invokestatic 115, 3) := by decide +kernel
theorem dX12_set_9 : decode cX12_set 9 = .ok (.ifCond .ne 6, 3) := by decide +kernel
theorem dX12_set_12 : decode cX12_set 12 = .ok (.ldc 121, 2) := by decide +kernel
theorem dX12_set_14 : decode cX12_set 14 = .ok (.ireturn, 1) := by decide +kernel
theorem dX12_set_15 : decode cX12_set 15 = .ok (.aload_n 0, 1) := by decide +kernel
theorem dX12_set_16 : decode cX12_set 16 = .ok (.iconst 0, 1) := by decide +kernel
theorem dX12_set_17 : decode cX12_set 17 = .ok (.putfield 105, 3) := by decide +kernel
theorem dX12_set_20 : decode cX12_set 20 = .ok (.aload_n 0, 1) := by decide +kernel
theorem dX12_set_21 : decode cX12_set 21 = .ok (.getfield 7, 3) := by decide +kernel
theorem dX12_set_24 : decode cX12_set 24 = .ok (.iload_n 1, 1) := by decide +kernel
theorem dX12_set_25 : decode cX12_set 25 = .ok (.iaload, 1) := by decide +kernel
theorem dX12_set_26 : decode cX12_set 26 = .ok (.ifCond .ge 9, 3) := by decide +kernel
theorem dX12_set_29 : decode cX12_set 29 = .ok (.aload_n 0, 1) := by decide +kernel
theorem dX12_set_30 : decode cX12_set 30 = .ok (.iconst 1, 1) := by decide +kernel
theorem dX12_set_31 : decode cX12_set 31 = .ok (.invokevirtual 122, 3) := by decide +kernel
theorem dX12_set_34 : decode cX12_set 34 = .ok (.ireturn, 1) := by decide +kernel
theorem dX12_set_35 : decode cX12_set 35 = .ok (.iload_n 2, 1) := by decide +kernel
theorem dX12_set_36 : decode cX12_set 36 = .ok (.i2l, 1) := by decide +kernel
theorem dX12_set_37 : decode cX12_set 37 = .ok (.lconst 0, 1) := by decide +kernel
theorem dX12_set_38 : decode cX12_set 38 = .ok (.aload_n 0, 1) := by decide +kernel
theorem dX12_set_39 : decode cX12_set 39 = .ok (.getfield 13, 3) := by decide +kernel
theorem dX12_set_42 : decode cX12_set 42 = .ok (.iload_n 1, 1) := by decide +kernel
theorem dX12_set_43 : decode cX12_set 43 = .ok (.iaload, 1) := by decide +kernel
theorem dX12_set_44 : decode cX12_set 44 = .ok (.iconst 1, 1) := by decide +kernel
theorem dX12_set_45 : decode cX12_set 45 = .ok (.isub, 1) := by decide +kernel
theorem dX12_set_46 : decode cX12_set 46 = .ok (.i2l, 1) := by decide +kernel
theorem dX12_set_47 : decode cX12_set 47 = .ok (.invokestatic 111, 3) := by decide +kernel
theorem dX12_set_50 : decode cX12_set 50 = .ok (.ifCond .ne 9, 3) := by decide +kernel
theorem dX12_set_53 : decode cX12_set 53 = .ok (.aload_n 0, 1) := by decide +kernel
theorem dX12_set_54 : decode cX12_set 54 = .ok (.iconst 2, 1) := by decide +kernel
theorem dX12_set_55 : decode cX12_set 55 = .ok (.invokevirtual 122, 3) := by decide +kernel
theorem dX12_set_58 : decode cX12_set 58 = .ok (.ireturn, 1) := by decide +kernel
theorem dX12_set_59 : decode cX12_set 59 = .ok (.aload_n 0, 1) := by decide +kernel
theorem dX12_set_60 : decode cX12_set 60 = .ok (.getfield 16, 3) := by decide +kernel
theorem dX12_set_63 : decode cX12_set 63 = .ok (.bipush 120, 2) := by decide +kernel
theorem dX12_set_65 : decode cX12_set 65 = .ok (.iload_n 1, 1) := by decide +kernel
theorem dX12_set_66 : decode cX12_set 66 = .ok (.imul, 1) := by decide +kernel
theorem dX12_set_67 : decode cX12_set 67 = .ok (.iload_n 2, 1) := by decide +kernel
theorem dX12_set_68 : decode cX12_set 68 = .ok (.iadd, 1) := by decide +kernel
theorem dX12_set_69 : decode cX12_set 69 = .ok (.aload_n 0, 1) := by decide +kernel
theorem dX12_set_70 : decode cX12_set 70 = .ok (.getfield 7, 3) := by decide +kernel
theorem dX12_set_73 : decode cX12_set 73 = .ok (.iload_n 1, 1) := by decide +kernel
theorem dX12_set_74 : decode cX12_set 74 = .ok (.iaload, 1) := by decide +kernel
theorem dX12_set_75 : decode cX12_set 75 = .ok (.ifCond .ne 8, 3) := by decide +kernel
theorem dX12_set_78 : decode cX12_set 78 = .ok (.iload_n 3, 1) := by decide +kernel
theorem dX12_set_79 : decode cX12_set 79 = .ok (.i2b, 1) := by decide +kernel
theorem dX12_set_80 : decode cX12_set 80 = .ok (.goto 19, 3) := by decide +kernel
theorem dX12_set_83 : decode cX12_set 83 = .ok (.aload_n 0, 1) := by decide +kernel
theorem dX12_set_84 : decode cX12_set 84 = .ok (.getfield 7, 3) := by decide +kernel
theorem dX12_set_87 : decode cX12_set 87 = .ok (.iload_n 1, 1) := by decide +kernel
theorem dX12_set_88 : decode cX12_set 88 = .ok (.iaload, 1) := by decide +kernel
theorem dX12_set_89 : decode cX12_set 89 = .ok (.iconst 1, 1) := by decide +kernel
theorem dX12_set_90 : decode cX12_set 90 = .ok (.if_icmp .ne 8, 3) := by decide +kernel
theorem dX12_set_93 : decode cX12_set 93 = .ok (.iload_n 3, 1) := by decide +kernel
theorem dX12_set_94 : decode cX12_set 94 = .ok (.i2s, 1) := by decide +kernel
theorem dX12_set_95 : decode cX12_set 95 = .ok (.goto 4, 3) := by decide +kernel
theorem dX12_set_98 : decode cX12_set 98 = .ok (.iload_n 3, 1) := by decide +kernel
theorem dX12_set_99 : decode cX12_set 99 = .ok (.iastore, 1) := by decide +kernel
theorem dX12_set_100 : decode cX12_set 100 = .ok (.aload_n 0, 1) := by decide +kernel
theorem dX12_set_101 : decode cX12_set 101 = .ok (.getfield 16, 3) := by decide +kernel
theorem dX12_set_104 : decode cX12_set 104 = .ok (.bipush 120, 2) := by decide +kernel
theorem dX12_set_106 : decode cX12_set 106 = .ok (.iload_n 1, 1) := by decide +kernel
theorem dX12_set_107 : decode cX12_set 107 = .ok (.imul, 1) := by decide +kernel
theorem dX12_set_108 : decode cX12_set 108 = .ok (.iload_n 2, 1) := by decide +kernel
theorem dX12_set_109 : decode cX12_set 109 = .ok (.iadd, 1) := by decide +kernel
theorem dX12_set_110 : decode cX12_set 110 = .ok (.iaload, 1) := by decide +kernel
theorem dX12_set_111 : decode cX12_set 111 = .ok (.ireturn, 1) := by decide +kernel
theorem kd_X12_set : aKd m_X12_set 3 := ⟨wd_12_4, wd_1_5, ⟨by decide +kernel, by decide +kernel, by decide +kernel⟩⟩
set_option maxRecDepth 100000 in
set_option maxHeartbeats 4000000 in
theorem l_X12_set_99  (x1 : Int32) (x2 : Int32) (t1 : Int32) (t2 : Int32) (σ : aSt) (o : Int32 × aSt) (h : f_X12_set_99  x1 x2 t1 t2 σ = some o) : AW true m_X12_set 99 [(0, va_rf (some (57))), (1, Value.int (x1)), (2, Value.int (x2))] [.int (t2), .int (t1), va_rf (some (60))] σ 0 0 (some (.int o.1)) o.2 := by
  unfold f_X12_set_99 at h
  replace h := e_grd h; obtain ⟨b18, h⟩ := h
  refine w_iastore dX12_set_99 ⟨rfl, Or.inr ⟨rfl, by decide⟩⟩ b18 ?_
  refine w_aload_n 0 ((some (57))) dX12_set_100 rfl rfl ?_
  refine w_get (v := va_rf (some 60)) dX12_set_101 fl_RX12_16 ⟨rfl, Or.inr ⟨rfl, by decide⟩⟩ (aFv_k rfl) ?_
  refine w_bipush (v := 120) dX12_set_104 (by decide) ?_
  refine w_iload_n 1 dX12_set_106 rfl rfl ?_
  refine w_imul dX12_set_107 ?_
  refine w_iload_n 2 dX12_set_108 rfl rfl ?_
  refine w_iadd dX12_set_109 ?_
  replace h := e_grd h; obtain ⟨b19, h⟩ := h
  refine w_iaload dX12_set_110 ⟨rfl, Or.inr ⟨rfl, by decide⟩⟩ b19 ?_
  obtain rfl := Option.some.inj h
  exact w_ireturn dX12_set_111 rfl (Nat.le_of_ble_eq_true rfl) (Nat.le_of_ble_eq_true rfl)
set_option maxRecDepth 100000 in
set_option maxHeartbeats 4000000 in
theorem c_X12_set (p1 : Int32) (p2 : Int32) (p3 : Int32) (σ : aSt) (o : Int32 × aSt) (h : f_X12_set p1 p2 p3 σ = some o) : AM true m_X12_set [va_rf (some (57)), .int (p1), .int (p2), .int (p3)] σ (some (.int o.1)) o.2 := by
  refine AM_of2 (lv := [(0, va_rf (some (57))), (1, Value.int (p1)), (2, Value.int (p2)), (3, Value.int (p3))]) (by decide +kernel) rfl (Nat.le_of_ble_eq_true rfl) ?_
  unfold f_X12_set at h
  refine w_aload_n 0 ((some (57))) dX12_set_0 rfl rfl ?_
  refine w_iconst (v := 0) dX12_set_1 (by decide) ?_
  refine w_putI dX12_set_2 fl_RX12_102 (Or.inl rfl) rfl ⟨rfl, Or.inr ⟨rfl, by decide⟩⟩ ?_
  refine w_iload_n 1 dX12_set_5 rfl rfl ?_
  replace h := e_bind h; obtain ⟨q1, e2, h⟩ := h
  refine w_callS1 (M2 := m_X12_isSheet) (av := [.int (p1)]) (c_X12_isSheet _ _ _ e2) dX12_set_6 kd_X12_isSheet wd_10_23 wd_11_0 rfl rfl ⟨Nat.le_of_ble_eq_true rfl, Nat.le_of_ble_eq_true rfl, Nat.le_of_ble_eq_true rfl, Nat.le_of_ble_eq_true rfl⟩ (Nat.le_of_ble_eq_true rfl) ?_
  refine w_if_ne 15 dX12_set_9 (by decide) (fun c3 => ?_) (fun c3 => ?_)
  · replace h := e_f c3 h
    refine w_aload_n 0 ((some (57))) dX12_set_15 rfl rfl ?_
    refine w_iconst (v := 0) dX12_set_16 (by decide) ?_
    refine w_putI dX12_set_17 fl_RX12_105 (Or.inl rfl) rfl ⟨rfl, Or.inr ⟨rfl, by decide⟩⟩ ?_
    refine w_aload_n 0 ((some (57))) dX12_set_20 rfl rfl ?_
    refine w_get (v := va_rf (some 58)) dX12_set_21 fl_RX12_7 ⟨rfl, Or.inr ⟨rfl, by decide⟩⟩ (aFv_k rfl) ?_
    refine w_iload_n 1 dX12_set_24 rfl rfl ?_
    replace h := e_grd h; obtain ⟨b4, h⟩ := h
    refine w_iaload dX12_set_25 ⟨rfl, Or.inr ⟨rfl, by decide⟩⟩ b4 ?_
    refine w_if_ge 35 dX12_set_26 (by decide) (fun c5 => ?_) (fun c5 => ?_)
    · replace h := e_t c5 h
      refine w_iload_n 2 dX12_set_35 rfl rfl ?_
      refine w_i2l dX12_set_36 ?_
      refine w_lconst (v := 0) dX12_set_37 (by decide) ?_
      refine w_aload_n 0 ((some (57))) dX12_set_38 rfl rfl ?_
      refine w_get (v := va_rf (some 59)) dX12_set_39 fl_RX12_13 ⟨rfl, Or.inr ⟨rfl, by decide⟩⟩ (aFv_k rfl) ?_
      refine w_iload_n 1 dX12_set_42 rfl rfl ?_
      replace h := e_grd h; obtain ⟨b6, h⟩ := h
      refine w_iaload dX12_set_43 ⟨rfl, Or.inr ⟨rfl, by decide⟩⟩ b6 ?_
      refine w_iconst (v := 1) dX12_set_44 (by decide) ?_
      refine w_isub dX12_set_45 ?_
      refine w_i2l dX12_set_46 ?_
      replace h := e_bind h; obtain ⟨q7, e8, h⟩ := h
      refine w_callS1 (M2 := m_X12_in) (av := [.long (p2.toInt64), .long (0), .long (((gI (sI q1.2 57 1 (0)) 59 p1.toNatClampNeg) - 1).toInt64)]) (c_X12_in _ _ _ _ _ e8) dX12_set_47 kd_X12_in wd_11_3 wd_11_4 rfl rfl ⟨Nat.le_of_ble_eq_true rfl, Nat.le_of_ble_eq_true rfl, Nat.le_of_ble_eq_true rfl, Nat.le_of_ble_eq_true rfl⟩ (Nat.le_of_ble_eq_true rfl) ?_
      refine w_if_ne 59 dX12_set_50 (by decide) (fun c9 => ?_) (fun c9 => ?_)
      · replace h := e_f c9 h
        refine w_aload_n 0 ((some (57))) dX12_set_59 rfl rfl ?_
        refine w_get (v := va_rf (some 60)) dX12_set_60 fl_RX12_16 ⟨rfl, Or.inr ⟨rfl, by decide⟩⟩ (aFv_k rfl) ?_
        refine w_bipush (v := 120) dX12_set_63 (by decide) ?_
        refine w_iload_n 1 dX12_set_65 rfl rfl ?_
        refine w_imul dX12_set_66 ?_
        refine w_iload_n 2 dX12_set_67 rfl rfl ?_
        refine w_iadd dX12_set_68 ?_
        refine w_aload_n 0 ((some (57))) dX12_set_69 rfl rfl ?_
        refine w_get (v := va_rf (some 58)) dX12_set_70 fl_RX12_7 ⟨rfl, Or.inr ⟨rfl, by decide⟩⟩ (aFv_k rfl) ?_
        refine w_iload_n 1 dX12_set_73 rfl rfl ?_
        replace h := e_grd h; obtain ⟨b10, h⟩ := h
        refine w_iaload dX12_set_74 ⟨rfl, Or.inr ⟨rfl, by decide⟩⟩ b10 ?_
        refine w_if_ne 83 dX12_set_75 (by decide) (fun c11 => ?_) (fun c11 => ?_)
        · replace h := e_f c11 h
          refine w_aload_n 0 ((some (57))) dX12_set_83 rfl rfl ?_
          refine w_get (v := va_rf (some 58)) dX12_set_84 fl_RX12_7 ⟨rfl, Or.inr ⟨rfl, by decide⟩⟩ (aFv_k rfl) ?_
          refine w_iload_n 1 dX12_set_87 rfl rfl ?_
          replace h := e_grd h; obtain ⟨b12, h⟩ := h
          refine w_iaload dX12_set_88 ⟨rfl, Or.inr ⟨rfl, by decide⟩⟩ b12 ?_
          refine w_iconst (v := 1) dX12_set_89 (by decide) ?_
          refine w_icmp_ne 98 dX12_set_90 (by decide) (fun c13 => ?_) (fun c13 => ?_)
          · replace h := e_f c13 h
            refine w_iload_n 3 dX12_set_98 rfl rfl ?_
            refine w_sub [0, 1, 2] rfl ?_
            exact l_X12_set_99 _ _ _ _ _ _ h
          · replace h := e_t c13 h
            refine w_iload_n 3 dX12_set_93 rfl rfl ?_
            refine w_i2s dX12_set_94 ?_
            refine w_goto 99 dX12_set_95 (by decide) ?_
            refine w_sub [0, 1, 2] rfl ?_
            exact l_X12_set_99 _ _ _ _ _ _ h
        · replace h := e_t c11 h
          refine w_iload_n 3 dX12_set_78 rfl rfl ?_
          refine w_i2b dX12_set_79 ?_
          refine w_goto 99 dX12_set_80 (by decide) ?_
          refine w_sub [0, 1, 2] rfl ?_
          exact l_X12_set_99 _ _ _ _ _ _ h
      · replace h := e_t c9 h
        refine w_aload_n 0 ((some (57))) dX12_set_53 rfl rfl ?_
        refine w_iconst (v := 2) dX12_set_54 (by decide) ?_
        replace h := e_bind h; obtain ⟨q14, e15, h⟩ := h
        refine w_callV1 (M2 := m_X12_found) (av := [.int (2)]) (ci := 12) (c_X12_found _ _ _ e15) dX12_set_55 kd_X12_found wd_11_6 wd_11_7 wd_11_8 rfl rfl ⟨rfl, Or.inr ⟨rfl, by decide⟩⟩ rfl ⟨Nat.le_of_ble_eq_true rfl, Nat.le_of_ble_eq_true rfl, Nat.le_of_ble_eq_true rfl, Nat.le_of_ble_eq_true rfl⟩ (Nat.le_of_ble_eq_true rfl) ?_
        obtain rfl := Option.some.inj h
        exact w_ireturn dX12_set_58 rfl (Nat.le_of_ble_eq_true rfl) (Nat.le_of_ble_eq_true rfl)
    · replace h := e_f c5 h
      refine w_aload_n 0 ((some (57))) dX12_set_29 rfl rfl ?_
      refine w_iconst (v := 1) dX12_set_30 (by decide) ?_
      replace h := e_bind h; obtain ⟨q16, e17, h⟩ := h
      refine w_callV1 (M2 := m_X12_found) (av := [.int (1)]) (ci := 12) (c_X12_found _ _ _ e17) dX12_set_31 kd_X12_found wd_11_6 wd_11_7 wd_11_8 rfl rfl ⟨rfl, Or.inr ⟨rfl, by decide⟩⟩ rfl ⟨Nat.le_of_ble_eq_true rfl, Nat.le_of_ble_eq_true rfl, Nat.le_of_ble_eq_true rfl, Nat.le_of_ble_eq_true rfl⟩ (Nat.le_of_ble_eq_true rfl) ?_
      obtain rfl := Option.some.inj h
      exact w_ireturn dX12_set_34 rfl (Nat.le_of_ble_eq_true rfl) (Nat.le_of_ble_eq_true rfl)
  · replace h := e_t c3 h
    refine w_ldc (v := (-1000001)) dX12_set_12 wd_10_21 ?_
    obtain rfl := Option.some.inj h
    exact w_ireturn dX12_set_14 rfl (Nat.le_of_ble_eq_true rfl) (Nat.le_of_ble_eq_true rfl)
theorem dX12_copy_0 : decode cX12_copy 0 = .ok (.aload_n 0, 1) := by decide +kernel
theorem dX12_copy_1 : decode cX12_copy 1 = .ok (.iconst 0, 1) := by decide +kernel
theorem dX12_copy_2 : decode cX12_copy 2 = .ok (.putfield 102, 3) := by decide +kernel
theorem dX12_copy_5 : decode cX12_copy 5 = .ok (.iload_n 1, 1) := by decide +kernel
theorem dX12_copy_6 : decode cX12_copy 6 = .ok (.invokestatic 115, 3) := by decide +kernel
theorem dX12_copy_9 : decode cX12_copy 9 = .ok (.ifCond .eq 10, 3) := by decide +kernel
theorem dX12_copy_12 : decode cX12_copy 12 = .ok (.iload_n 3, 1) := by decide +kernel
theorem dX12_copy_13 : decode cX12_copy 13 = .ok (.invokestatic 115, 3) := by decide +kernel
theorem dX12_copy_16 : decode cX12_copy 16 = .ok (.ifCond .ne 6, 3) := by decide +kernel
theorem dX12_copy_19 : decode cX12_copy 19 = .ok (.ldc 121, 2) := by decide +kernel
theorem dX12_copy_21 : decode cX12_copy 21 = .ok (.ireturn, 1) := by decide +kernel
theorem dX12_copy_22 : decode cX12_copy 22 = .ok (.aload_n 0, 1) := by decide +kernel
theorem dX12_copy_23 : decode cX12_copy 23 = .ok (.iconst 0, 1) := by decide +kernel
theorem dX12_copy_24 : decode cX12_copy 24 = .ok (.putfield 105, 3) := by decide +kernel
theorem dX12_copy_27 : decode cX12_copy 27 = .ok (.aload_n 0, 1) := by decide +kernel
theorem dX12_copy_28 : decode cX12_copy 28 = .ok (.getfield 7, 3) := by decide +kernel
theorem dX12_copy_31 : decode cX12_copy 31 = .ok (.iload_n 1, 1) := by decide +kernel
theorem dX12_copy_32 : decode cX12_copy 32 = .ok (.iaload, 1) := by decide +kernel
theorem dX12_copy_33 : decode cX12_copy 33 = .ok (.ifCond .lt 12, 3) := by decide +kernel
theorem dX12_copy_36 : decode cX12_copy 36 = .ok (.aload_n 0, 1) := by decide +kernel
theorem dX12_copy_37 : decode cX12_copy 37 = .ok (.getfield 7, 3) := by decide +kernel
theorem dX12_copy_40 : decode cX12_copy 40 = .ok (.iload_n 3, 1) := by decide +kernel
theorem dX12_copy_41 : decode cX12_copy 41 = .ok (.iaload, 1) := by decide +kernel
theorem dX12_copy_42 : decode cX12_copy 42 = .ok (.ifCond .ge 9, 3) := by decide +kernel
theorem dX12_copy_45 : decode cX12_copy 45 = .ok (.aload_n 0, 1) := by decide +kernel
theorem dX12_copy_46 : decode cX12_copy 46 = .ok (.iconst 1, 1) := by decide +kernel
theorem dX12_copy_47 : decode cX12_copy 47 = .ok (.invokevirtual 122, 3) := by decide +kernel
theorem dX12_copy_50 : decode cX12_copy 50 = .ok (.ireturn, 1) := by decide +kernel
theorem dX12_copy_51 : decode cX12_copy 51 = .ok (.aload_n 0, 1) := by decide +kernel
theorem dX12_copy_52 : decode cX12_copy 52 = .ok (.getfield 7, 3) := by decide +kernel
theorem dX12_copy_55 : decode cX12_copy 55 = .ok (.iload_n 1, 1) := by decide +kernel
theorem dX12_copy_56 : decode cX12_copy 56 = .ok (.iaload, 1) := by decide +kernel
theorem dX12_copy_57 : decode cX12_copy 57 = .ok (.aload_n 0, 1) := by decide +kernel
theorem dX12_copy_58 : decode cX12_copy 58 = .ok (.getfield 7, 3) := by decide +kernel
theorem dX12_copy_61 : decode cX12_copy 61 = .ok (.iload_n 3, 1) := by decide +kernel
theorem dX12_copy_62 : decode cX12_copy 62 = .ok (.iaload, 1) := by decide +kernel
theorem dX12_copy_63 : decode cX12_copy 63 = .ok (.if_icmp .eq 9, 3) := by decide +kernel
theorem dX12_copy_66 : decode cX12_copy 66 = .ok (.aload_n 0, 1) := by decide +kernel
theorem dX12_copy_67 : decode cX12_copy 67 = .ok (.iconst 5, 1) := by decide +kernel
theorem dX12_copy_68 : decode cX12_copy 68 = .ok (.invokevirtual 122, 3) := by decide +kernel
theorem dX12_copy_71 : decode cX12_copy 71 = .ok (.ireturn, 1) := by decide +kernel
theorem dX12_copy_72 : decode cX12_copy 72 = .ok (.iload_n 2, 1) := by decide +kernel
theorem dX12_copy_73 : decode cX12_copy 73 = .ok (.ifCond .lt 48, 3) := by decide +kernel
theorem dX12_copy_76 : decode cX12_copy 76 = .ok (.iload 4, 2) := by decide +kernel
theorem dX12_copy_78 : decode cX12_copy 78 = .ok (.ifCond .lt 43, 3) := by decide +kernel
theorem dX12_copy_81 : decode cX12_copy 81 = .ok (.iload 5, 2) := by decide +kernel
theorem dX12_copy_83 : decode cX12_copy 83 = .ok (.ifCond .lt 38, 3) := by decide +kernel
theorem dX12_copy_86 : decode cX12_copy 86 = .ok (.iload_n 2, 1) := by decide +kernel
theorem dX12_copy_87 : decode cX12_copy 87 = .ok (.i2l, 1) := by decide +kernel
theorem dX12_copy_88 : decode cX12_copy 88 = .ok (.iload 5, 2) := by decide +kernel
theorem dX12_copy_90 : decode cX12_copy 90 = .ok (.i2l, 1) := by decide +kernel
theorem dX12_copy_91 : decode cX12_copy 91 = .ok (.ladd, 1) := by decide +kernel
theorem dX12_copy_92 : decode cX12_copy 92 = .ok (.aload_n 0, 1) := by decide +kernel
theorem dX12_copy_93 : decode cX12_copy 93 = .ok (.getfield 13, 3) := by decide +kernel
theorem dX12_copy_96 : decode cX12_copy 96 = .ok (.iload_n 1, 1) := by decide +kernel
theorem dX12_copy_97 : decode cX12_copy 97 = .ok (.iaload, 1) := by decide +kernel
theorem dX12_copy_98 : decode cX12_copy 98 = .ok (.i2l, 1) := by decide +kernel
theorem dX12_copy_99 : decode cX12_copy 99 = .ok (.lcmp, 1) := by decide +kernel
theorem dX12_copy_100 : decode cX12_copy 100 = .ok (.ifCond .gt 21, 3) := by decide +kernel
theorem dX12_copy_103 : decode cX12_copy 103 = .ok (.iload 4, 2) := by decide +kernel
theorem dX12_copy_105 : decode cX12_copy 105 = .ok (.i2l, 1) := by decide +kernel
theorem dX12_copy_106 : decode cX12_copy 106 = .ok (.iload 5, 2) := by decide +kernel
theorem dX12_copy_108 : decode cX12_copy 108 = .ok (.i2l, 1) := by decide +kernel
theorem dX12_copy_109 : decode cX12_copy 109 = .ok (.ladd, 1) := by decide +kernel
theorem dX12_copy_110 : decode cX12_copy 110 = .ok (.aload_n 0, 1) := by decide +kernel
theorem dX12_copy_111 : decode cX12_copy 111 = .ok (.getfield 13, 3) := by decide +kernel
theorem dX12_copy_114 : decode cX12_copy 114 = .ok (.iload_n 3, 1) := by decide +kernel
theorem dX12_copy_115 : decode cX12_copy 115 = .ok (.iaload, 1) := by decide +kernel
theorem dX12_copy_116 : decode cX12_copy 116 = .ok (.i2l, 1) := by decide +kernel
theorem dX12_copy_117 : decode cX12_copy 117 = .ok (.lcmp, 1) := by decide +kernel
theorem dX12_copy_118 : decode cX12_copy 118 = .ok (.ifCond .le 9, 3) := by decide +kernel
theorem dX12_copy_121 : decode cX12_copy 121 = .ok (.aload_n 0, 1) := by decide +kernel
theorem dX12_copy_122 : decode cX12_copy 122 = .ok (.iconst 2, 1) := by decide +kernel
theorem dX12_copy_123 : decode cX12_copy 123 = .ok (.invokevirtual 122, 3) := by decide +kernel
theorem dX12_copy_126 : decode cX12_copy 126 = .ok (.ireturn, 1) := by decide +kernel
theorem dX12_copy_127 : decode cX12_copy 127 = .ok (.iload_n 2, 1) := by decide +kernel
theorem dX12_copy_128 : decode cX12_copy 128 = .ok (.iload 4, 2) := by decide +kernel
theorem dX12_copy_130 : decode cX12_copy 130 = .ok (.if_icmp .lt 7, 3) := by decide +kernel
theorem dX12_copy_133 : decode cX12_copy 133 = .ok (.iconst 1, 1) := by decide +kernel
theorem dX12_copy_134 : decode cX12_copy 134 = .ok (.goto 4, 3) := by decide +kernel
theorem dX12_copy_137 : decode cX12_copy 137 = .ok (.iconst 0, 1) := by decide +kernel
theorem dX12_copy_138 : decode cX12_copy 138 = .ok (.istore 6, 2) := by decide +kernel
theorem dX12_copy_140 : decode cX12_copy 140 = .ok (.iconst 0, 1) := by decide +kernel
theorem dX12_copy_141 : decode cX12_copy 141 = .ok (.istore 7, 2) := by decide +kernel
theorem dX12_copy_143 : decode cX12_copy 143 = .ok (.iload 7, 2) := by decide +kernel
theorem dX12_copy_145 : decode cX12_copy 145 = .ok (.iload 5, 2) := by decide +kernel
theorem dX12_copy_147 : decode cX12_copy 147 = .ok (.if_icmp .ge 57, 3) := by decide +kernel
theorem dX12_copy_150 : decode cX12_copy 150 = .ok (.iload 6, 2) := by decide +kernel
theorem dX12_copy_152 : decode cX12_copy 152 = .ok (.ifCond .eq 8, 3) := by decide +kernel
theorem dX12_copy_155 : decode cX12_copy 155 = .ok (.iload 7, 2) := by decide +kernel
theorem dX12_copy_157 : decode cX12_copy 157 = .ok (.goto 10, 3) := by decide +kernel
theorem dX12_copy_160 : decode cX12_copy 160 = .ok (.iload 5, 2) := by decide +kernel
theorem dX12_copy_162 : decode cX12_copy 162 = .ok (.iconst 1, 1) := by decide +kernel
theorem dX12_copy_163 : decode cX12_copy 163 = .ok (.isub, 1) := by decide +kernel
theorem dX12_copy_164 : decode cX12_copy 164 = .ok (.iload 7, 2) := by decide +kernel
theorem dX12_copy_166 : decode cX12_copy 166 = .ok (.isub, 1) := by decide +kernel
theorem dX12_copy_167 : decode cX12_copy 167 = .ok (.istore 8, 2) := by decide +kernel
theorem dX12_copy_169 : decode cX12_copy 169 = .ok (.aload_n 0, 1) := by decide +kernel
theorem dX12_copy_170 : decode cX12_copy 170 = .ok (.getfield 16, 3) := by decide +kernel
theorem dX12_copy_173 : decode cX12_copy 173 = .ok (.bipush 120, 2) := by decide +kernel
theorem dX12_copy_175 : decode cX12_copy 175 = .ok (.iload_n 3, 1) := by decide +kernel
theorem dX12_copy_176 : decode cX12_copy 176 = .ok (.imul, 1) := by decide +kernel
theorem dX12_copy_177 : decode cX12_copy 177 = .ok (.iload 4, 2) := by decide +kernel
theorem dX12_copy_179 : decode cX12_copy 179 = .ok (.iadd, 1) := by decide +kernel
theorem dX12_copy_180 : decode cX12_copy 180 = .ok (.iload 8, 2) := by decide +kernel
theorem dX12_copy_182 : decode cX12_copy 182 = .ok (.iadd, 1) := by decide +kernel
theorem dX12_copy_183 : decode cX12_copy 183 = .ok (.aload_n 0, 1) := by decide +kernel
theorem dX12_copy_184 : decode cX12_copy 184 = .ok (.getfield 16, 3) := by decide +kernel
theorem dX12_copy_187 : decode cX12_copy 187 = .ok (.bipush 120, 2) := by decide +kernel
theorem dX12_copy_189 : decode cX12_copy 189 = .ok (.iload_n 1, 1) := by decide +kernel
theorem dX12_copy_190 : decode cX12_copy 190 = .ok (.imul, 1) := by decide +kernel
theorem dX12_copy_191 : decode cX12_copy 191 = .ok (.iload_n 2, 1) := by decide +kernel
theorem dX12_copy_192 : decode cX12_copy 192 = .ok (.iadd, 1) := by decide +kernel
theorem dX12_copy_193 : decode cX12_copy 193 = .ok (.iload 8, 2) := by decide +kernel
theorem dX12_copy_195 : decode cX12_copy 195 = .ok (.iadd, 1) := by decide +kernel
theorem dX12_copy_196 : decode cX12_copy 196 = .ok (.iaload, 1) := by decide +kernel
theorem dX12_copy_197 : decode cX12_copy 197 = .ok (.iastore, 1) := by decide +kernel
theorem dX12_copy_198 : decode cX12_copy 198 = .ok (.iinc 7 1, 3) := by decide +kernel
theorem dX12_copy_201 : decode cX12_copy 201 = .ok (.goto (-58), 3) := by decide +kernel
theorem dX12_copy_204 : decode cX12_copy 204 = .ok (.iload 5, 2) := by decide +kernel
theorem dX12_copy_206 : decode cX12_copy 206 = .ok (.ireturn, 1) := by decide +kernel
theorem kd_X12_copy : aKd m_X12_copy 5 := ⟨wd_12_18, wd_1_5, ⟨by decide +kernel, by decide +kernel, by decide +kernel⟩⟩
set_option maxRecDepth 100000 in
set_option maxHeartbeats 4000000 in
theorem l_X12_copy_19   (σ : aSt) (o : Int32 × aSt) (h : f_X12_copy_19   σ = some o) : AW true m_X12_copy 19 [] [] σ 0 0 (some (.int o.1)) o.2 := by
  unfold f_X12_copy_19 at h
  refine w_ldc (v := (-1000001)) dX12_copy_19 wd_10_21 ?_
  obtain rfl := Option.some.inj h
  exact w_ireturn dX12_copy_21 rfl (Nat.le_of_ble_eq_true rfl) (Nat.le_of_ble_eq_true rfl)
set_option maxRecDepth 100000 in
set_option maxHeartbeats 4000000 in
theorem l_X12_copy_45   (σ : aSt) (o : Int32 × aSt) (h : f_X12_copy_45   σ = some o) : AW true m_X12_copy 45 [(0, va_rf (some (57)))] [] σ 0 0 (some (.int o.1)) o.2 := by
  unfold f_X12_copy_45 at h
  refine w_aload_n 0 ((some (57))) dX12_copy_45 rfl rfl ?_
  refine w_iconst (v := 1) dX12_copy_46 (by decide) ?_
  replace h := e_bind h; obtain ⟨q30, e31, h⟩ := h
  refine w_callV1 (M2 := m_X12_found) (av := [.int (1)]) (ci := 12) (c_X12_found _ _ _ e31) dX12_copy_47 kd_X12_found wd_11_6 wd_11_7 wd_11_8 rfl rfl ⟨rfl, Or.inr ⟨rfl, by decide⟩⟩ rfl ⟨Nat.le_of_ble_eq_true rfl, Nat.le_of_ble_eq_true rfl, Nat.le_of_ble_eq_true rfl, Nat.le_of_ble_eq_true rfl⟩ (Nat.le_of_ble_eq_true rfl) ?_
  obtain rfl := Option.some.inj h
  exact w_ireturn dX12_copy_50 rfl (Nat.le_of_ble_eq_true rfl) (Nat.le_of_ble_eq_true rfl)
set_option maxRecDepth 100000 in
set_option maxHeartbeats 4000000 in
theorem l_X12_copy_121   (σ : aSt) (o : Int32 × aSt) (h : f_X12_copy_121   σ = some o) : AW true m_X12_copy 121 [(0, va_rf (some (57)))] [] σ 0 0 (some (.int o.1)) o.2 := by
  unfold f_X12_copy_121 at h
  refine w_aload_n 0 ((some (57))) dX12_copy_121 rfl rfl ?_
  refine w_iconst (v := 2) dX12_copy_122 (by decide) ?_
  replace h := e_bind h; obtain ⟨q28, e29, h⟩ := h
  refine w_callV1 (M2 := m_X12_found) (av := [.int (2)]) (ci := 12) (c_X12_found _ _ _ e29) dX12_copy_123 kd_X12_found wd_11_6 wd_11_7 wd_11_8 rfl rfl ⟨rfl, Or.inr ⟨rfl, by decide⟩⟩ rfl ⟨Nat.le_of_ble_eq_true rfl, Nat.le_of_ble_eq_true rfl, Nat.le_of_ble_eq_true rfl, Nat.le_of_ble_eq_true rfl⟩ (Nat.le_of_ble_eq_true rfl) ?_
  obtain rfl := Option.some.inj h
  exact w_ireturn dX12_copy_126 rfl (Nat.le_of_ble_eq_true rfl) (Nat.le_of_ble_eq_true rfl)
set_option maxRecDepth 100000 in
set_option maxHeartbeats 4000000 in
theorem l_X12_copy_167 (rec143 : Int32 → Int32 → Int32 → Int32 → Int32 → Int32 → Int32 → aSt → Option (Int32 × aSt)) (hrec143 : ∀ (x1 : Int32) (x2 : Int32) (x3 : Int32) (x4 : Int32) (x5 : Int32) (x6 : Int32) (x7 : Int32) (σ : aSt) (o : Int32 × aSt), rec143 x1 x2 x3 x4 x5 x6 x7 σ = some o → AW true m_X12_copy 143 [(0, va_rf (some (57))), (1, Value.int (x1)), (2, Value.int (x2)), (3, Value.int (x3)), (4, Value.int (x4)), (5, Value.int (x5)), (6, Value.int (x6)), (7, Value.int (x7))] [] σ 0 0 (some (.int o.1)) o.2) (x1 : Int32) (x2 : Int32) (x3 : Int32) (x4 : Int32) (x5 : Int32) (x6 : Int32) (x7 : Int32) (t0 : Int32) (σ : aSt) (o : Int32 × aSt) (h : f_X12_copy_167 rec143 x1 x2 x3 x4 x5 x6 x7 t0 σ = some o) : AW true m_X12_copy 167 [(0, va_rf (some (57))), (1, Value.int (x1)), (2, Value.int (x2)), (3, Value.int (x3)), (4, Value.int (x4)), (5, Value.int (x5)), (6, Value.int (x6)), (7, Value.int (x7))] [.int (t0)] σ 0 0 (some (.int o.1)) o.2 := by
  unfold f_X12_copy_167 at h
  refine w_istore dX12_copy_167 (by decide) rfl ?_
  refine w_aload_n 1 ((some (57))) dX12_copy_169 rfl rfl ?_
  refine w_get (v := va_rf (some 60)) dX12_copy_170 fl_RX12_16 ⟨rfl, Or.inr ⟨rfl, by decide⟩⟩ (aFv_k rfl) ?_
  refine w_bipush (v := 120) dX12_copy_173 (by decide) ?_
  refine w_iload_n 4 dX12_copy_175 rfl rfl ?_
  refine w_imul dX12_copy_176 ?_
  refine w_iload 5 dX12_copy_177 rfl ?_
  refine w_iadd dX12_copy_179 ?_
  refine w_iload 0 dX12_copy_180 rfl ?_
  refine w_iadd dX12_copy_182 ?_
  refine w_aload_n 1 ((some (57))) dX12_copy_183 rfl rfl ?_
  refine w_get (v := va_rf (some 60)) dX12_copy_184 fl_RX12_16 ⟨rfl, Or.inr ⟨rfl, by decide⟩⟩ (aFv_k rfl) ?_
  refine w_bipush (v := 120) dX12_copy_187 (by decide) ?_
  refine w_iload_n 2 dX12_copy_189 rfl rfl ?_
  refine w_imul dX12_copy_190 ?_
  refine w_iload_n 3 dX12_copy_191 rfl rfl ?_
  refine w_iadd dX12_copy_192 ?_
  refine w_iload 0 dX12_copy_193 rfl ?_
  refine w_iadd dX12_copy_195 ?_
  replace h := e_grd h; obtain ⟨b24, h⟩ := h
  refine w_iaload dX12_copy_196 ⟨rfl, Or.inr ⟨rfl, by decide⟩⟩ b24 ?_
  replace h := e_grd h; obtain ⟨b25, h⟩ := h
  refine w_iastore dX12_copy_197 ⟨rfl, Or.inr ⟨rfl, by decide⟩⟩ b25 ?_
  refine w_iinc (q := 8) (v := x7 + 1) dX12_copy_198 rfl rfl (by decide) rfl ?_
  refine w_goto 143 dX12_copy_201 (by decide) ?_
  refine w_sub [2, 3, 4, 5, 6, 7, 8, 0] rfl ?_
  exact hrec143 _ _ _ _ _ _ _ _ _ h
set_option maxRecDepth 100000 in
set_option maxHeartbeats 4000000 in
theorem l_X12_copy_143_b (rec143 : Int32 → Int32 → Int32 → Int32 → Int32 → Int32 → Int32 → aSt → Option (Int32 × aSt)) (hrec143 : ∀ (x1 : Int32) (x2 : Int32) (x3 : Int32) (x4 : Int32) (x5 : Int32) (x6 : Int32) (x7 : Int32) (σ : aSt) (o : Int32 × aSt), rec143 x1 x2 x3 x4 x5 x6 x7 σ = some o → AW true m_X12_copy 143 [(0, va_rf (some (57))), (1, Value.int (x1)), (2, Value.int (x2)), (3, Value.int (x3)), (4, Value.int (x4)), (5, Value.int (x5)), (6, Value.int (x6)), (7, Value.int (x7))] [] σ 0 0 (some (.int o.1)) o.2) (x1 : Int32) (x2 : Int32) (x3 : Int32) (x4 : Int32) (x5 : Int32) (x6 : Int32) (x7 : Int32) (σ : aSt) (o : Int32 × aSt) (h : f_X12_copy_143_b rec143 x1 x2 x3 x4 x5 x6 x7 σ = some o) : AW true m_X12_copy 143 [(0, va_rf (some (57))), (1, Value.int (x1)), (2, Value.int (x2)), (3, Value.int (x3)), (4, Value.int (x4)), (5, Value.int (x5)), (6, Value.int (x6)), (7, Value.int (x7))] [] σ 0 0 (some (.int o.1)) o.2 := by
  unfold f_X12_copy_143_b at h
  refine w_iload 7 dX12_copy_143 rfl ?_
  refine w_iload 5 dX12_copy_145 rfl ?_
  refine w_icmp_ge 204 dX12_copy_147 (by decide) (fun c26 => ?_) (fun c26 => ?_)
  · replace h := e_t c26 h
    refine w_iload 5 dX12_copy_204 rfl ?_
    obtain rfl := Option.some.inj h
    exact w_ireturn dX12_copy_206 rfl (Nat.le_of_ble_eq_true rfl) (Nat.le_of_ble_eq_true rfl)
  · replace h := e_f c26 h
    refine w_iload 6 dX12_copy_150 rfl ?_
    refine w_if_eq 160 dX12_copy_152 (by decide) (fun c27 => ?_) (fun c27 => ?_)
    · replace h := e_t c27 h
      refine w_iload 5 dX12_copy_160 rfl ?_
      refine w_iconst (v := 1) dX12_copy_162 (by decide) ?_
      refine w_isub dX12_copy_163 ?_
      refine w_iload 7 dX12_copy_164 rfl ?_
      refine w_isub dX12_copy_166 ?_
      exact l_X12_copy_167 rec143 hrec143 _ _ _ _ _ _ _ _ _ _ h
    · replace h := e_f c27 h
      refine w_iload 7 dX12_copy_155 rfl ?_
      refine w_goto 167 dX12_copy_157 (by decide) ?_
      exact l_X12_copy_167 rec143 hrec143 _ _ _ _ _ _ _ _ _ _ h
theorem l_X12_copy_143  : ∀ (n : Nat) (x1 : Int32) (x2 : Int32) (x3 : Int32) (x4 : Int32) (x5 : Int32) (x6 : Int32) (x7 : Int32) (σ : aSt) (o : Int32 × aSt), f_X12_copy_143  n x1 x2 x3 x4 x5 x6 x7 σ = some o → AW true m_X12_copy 143 [(0, va_rf (some (57))), (1, Value.int (x1)), (2, Value.int (x2)), (3, Value.int (x3)), (4, Value.int (x4)), (5, Value.int (x5)), (6, Value.int (x6)), (7, Value.int (x7))] [] σ 0 0 (some (.int o.1)) o.2
  | 0 => fun x1 x2 x3 x4 x5 x6 x7 σ o h => by cases h
  | n + 1 => fun x1 x2 x3 x4 x5 x6 x7 σ o h => l_X12_copy_143_b (f_X12_copy_143  n) (l_X12_copy_143  n) x1 x2 x3 x4 x5 x6 x7 σ o h
set_option maxRecDepth 100000 in
set_option maxHeartbeats 4000000 in
theorem l_X12_copy_138  (x1 : Int32) (x2 : Int32) (x3 : Int32) (x4 : Int32) (x5 : Int32) (t0 : Int32) (σ : aSt) (o : Int32 × aSt) (h : f_X12_copy_138  x1 x2 x3 x4 x5 t0 σ = some o) : AW true m_X12_copy 138 [(0, va_rf (some (57))), (1, Value.int (x1)), (2, Value.int (x2)), (3, Value.int (x3)), (4, Value.int (x4)), (5, Value.int (x5))] [.int (t0)] σ 0 0 (some (.int o.1)) o.2 := by
  unfold f_X12_copy_138 at h
  refine w_istore dX12_copy_138 (by decide) rfl ?_
  refine w_iconst (v := 0) dX12_copy_140 (by decide) ?_
  refine w_istore dX12_copy_141 (by decide) rfl ?_
  refine w_sub [2, 3, 4, 5, 6, 7, 1, 0] rfl ?_
  exact l_X12_copy_143 aN _ _ _ _ _ _ _ _ _ h
set_option maxRecDepth 100000 in
set_option maxHeartbeats 4000000 in
theorem c_X12_copy (p1 : Int32) (p2 : Int32) (p3 : Int32) (p4 : Int32) (p5 : Int32) (σ : aSt) (o : Int32 × aSt) (h : f_X12_copy p1 p2 p3 p4 p5 σ = some o) : AM true m_X12_copy [va_rf (some (57)), .int (p1), .int (p2), .int (p3), .int (p4), .int (p5)] σ (some (.int o.1)) o.2 := by
  refine AM_of2 (lv := [(0, va_rf (some (57))), (1, Value.int (p1)), (2, Value.int (p2)), (3, Value.int (p3)), (4, Value.int (p4)), (5, Value.int (p5))]) (by decide +kernel) rfl (Nat.le_of_ble_eq_true rfl) ?_
  unfold f_X12_copy at h
  refine w_aload_n 0 ((some (57))) dX12_copy_0 rfl rfl ?_
  refine w_iconst (v := 0) dX12_copy_1 (by decide) ?_
  refine w_putI dX12_copy_2 fl_RX12_102 (Or.inl rfl) rfl ⟨rfl, Or.inr ⟨rfl, by decide⟩⟩ ?_
  refine w_iload_n 1 dX12_copy_5 rfl rfl ?_
  replace h := e_bind h; obtain ⟨q1, e2, h⟩ := h
  refine w_callS1 (M2 := m_X12_isSheet) (av := [.int (p1)]) (c_X12_isSheet _ _ _ e2) dX12_copy_6 kd_X12_isSheet wd_10_23 wd_11_0 rfl rfl ⟨Nat.le_of_ble_eq_true rfl, Nat.le_of_ble_eq_true rfl, Nat.le_of_ble_eq_true rfl, Nat.le_of_ble_eq_true rfl⟩ (Nat.le_of_ble_eq_true rfl) ?_
  refine w_if_eq 19 dX12_copy_9 (by decide) (fun c3 => ?_) (fun c3 => ?_)
  · replace h := e_t c3 h
    refine w_sub [] rfl ?_
    exact l_X12_copy_19 _ _ h
  · replace h := e_f c3 h
    refine w_iload_n 3 dX12_copy_12 rfl rfl ?_
    replace h := e_bind h; obtain ⟨q4, e5, h⟩ := h
    refine w_callS1 (M2 := m_X12_isSheet) (av := [.int (p3)]) (c_X12_isSheet _ _ _ e5) dX12_copy_13 kd_X12_isSheet wd_10_23 wd_11_0 rfl rfl ⟨Nat.le_of_ble_eq_true rfl, Nat.le_of_ble_eq_true rfl, Nat.le_of_ble_eq_true rfl, Nat.le_of_ble_eq_true rfl⟩ (Nat.le_of_ble_eq_true rfl) ?_
    refine w_if_ne 22 dX12_copy_16 (by decide) (fun c6 => ?_) (fun c6 => ?_)
    · replace h := e_f c6 h
      refine w_aload_n 0 ((some (57))) dX12_copy_22 rfl rfl ?_
      refine w_iconst (v := 0) dX12_copy_23 (by decide) ?_
      refine w_putI dX12_copy_24 fl_RX12_105 (Or.inl rfl) rfl ⟨rfl, Or.inr ⟨rfl, by decide⟩⟩ ?_
      refine w_aload_n 0 ((some (57))) dX12_copy_27 rfl rfl ?_
      refine w_get (v := va_rf (some 58)) dX12_copy_28 fl_RX12_7 ⟨rfl, Or.inr ⟨rfl, by decide⟩⟩ (aFv_k rfl) ?_
      refine w_iload_n 1 dX12_copy_31 rfl rfl ?_
      replace h := e_grd h; obtain ⟨b7, h⟩ := h
      refine w_iaload dX12_copy_32 ⟨rfl, Or.inr ⟨rfl, by decide⟩⟩ b7 ?_
      refine w_if_lt 45 dX12_copy_33 (by decide) (fun c8 => ?_) (fun c8 => ?_)
      · replace h := e_t c8 h
        refine w_sub [0] rfl ?_
        exact l_X12_copy_45 _ _ h
      · replace h := e_f c8 h
        refine w_aload_n 0 ((some (57))) dX12_copy_36 rfl rfl ?_
        refine w_get (v := va_rf (some 58)) dX12_copy_37 fl_RX12_7 ⟨rfl, Or.inr ⟨rfl, by decide⟩⟩ (aFv_k rfl) ?_
        refine w_iload_n 3 dX12_copy_40 rfl rfl ?_
        replace h := e_grd h; obtain ⟨b9, h⟩ := h
        refine w_iaload dX12_copy_41 ⟨rfl, Or.inr ⟨rfl, by decide⟩⟩ b9 ?_
        refine w_if_ge 51 dX12_copy_42 (by decide) (fun c10 => ?_) (fun c10 => ?_)
        · replace h := e_t c10 h
          refine w_aload_n 0 ((some (57))) dX12_copy_51 rfl rfl ?_
          refine w_get (v := va_rf (some 58)) dX12_copy_52 fl_RX12_7 ⟨rfl, Or.inr ⟨rfl, by decide⟩⟩ (aFv_k rfl) ?_
          refine w_iload_n 1 dX12_copy_55 rfl rfl ?_
          replace h := e_grd h; obtain ⟨b11, h⟩ := h
          refine w_iaload dX12_copy_56 ⟨rfl, Or.inr ⟨rfl, by decide⟩⟩ b11 ?_
          refine w_aload_n 0 ((some (57))) dX12_copy_57 rfl rfl ?_
          refine w_get (v := va_rf (some 58)) dX12_copy_58 fl_RX12_7 ⟨rfl, Or.inr ⟨rfl, by decide⟩⟩ (aFv_k rfl) ?_
          refine w_iload_n 3 dX12_copy_61 rfl rfl ?_
          replace h := e_grd h; obtain ⟨b12, h⟩ := h
          refine w_iaload dX12_copy_62 ⟨rfl, Or.inr ⟨rfl, by decide⟩⟩ b12 ?_
          refine w_icmp_eq 72 dX12_copy_63 (by decide) (fun c13 => ?_) (fun c13 => ?_)
          · replace h := e_t c13 h
            refine w_iload_n 2 dX12_copy_72 rfl rfl ?_
            refine w_if_lt 121 dX12_copy_73 (by decide) (fun c14 => ?_) (fun c14 => ?_)
            · replace h := e_t c14 h
              refine w_sub [0] rfl ?_
              exact l_X12_copy_121 _ _ h
            · replace h := e_f c14 h
              refine w_iload 4 dX12_copy_76 rfl ?_
              refine w_if_lt 121 dX12_copy_78 (by decide) (fun c15 => ?_) (fun c15 => ?_)
              · replace h := e_t c15 h
                refine w_sub [0] rfl ?_
                exact l_X12_copy_121 _ _ h
              · replace h := e_f c15 h
                refine w_iload 5 dX12_copy_81 rfl ?_
                refine w_if_lt 121 dX12_copy_83 (by decide) (fun c16 => ?_) (fun c16 => ?_)
                · replace h := e_t c16 h
                  refine w_sub [0] rfl ?_
                  exact l_X12_copy_121 _ _ h
                · replace h := e_f c16 h
                  refine w_iload_n 2 dX12_copy_86 rfl rfl ?_
                  refine w_i2l dX12_copy_87 ?_
                  refine w_iload 5 dX12_copy_88 rfl ?_
                  refine w_i2l dX12_copy_90 ?_
                  refine w_ladd dX12_copy_91 ?_
                  refine w_aload_n 0 ((some (57))) dX12_copy_92 rfl rfl ?_
                  refine w_get (v := va_rf (some 59)) dX12_copy_93 fl_RX12_13 ⟨rfl, Or.inr ⟨rfl, by decide⟩⟩ (aFv_k rfl) ?_
                  refine w_iload_n 1 dX12_copy_96 rfl rfl ?_
                  replace h := e_grd h; obtain ⟨b17, h⟩ := h
                  refine w_iaload dX12_copy_97 ⟨rfl, Or.inr ⟨rfl, by decide⟩⟩ b17 ?_
                  refine w_i2l dX12_copy_98 ?_
                  refine w_lcmp dX12_copy_99 ?_
                  refine w_if_gt 121 dX12_copy_100 (by decide) (fun c18 => ?_) (fun c18 => ?_)
                  · replace h := e_t c18 h
                    refine w_sub [0] rfl ?_
                    exact l_X12_copy_121 _ _ h
                  · replace h := e_f c18 h
                    refine w_iload 4 dX12_copy_103 rfl ?_
                    refine w_i2l dX12_copy_105 ?_
                    refine w_iload 5 dX12_copy_106 rfl ?_
                    refine w_i2l dX12_copy_108 ?_
                    refine w_ladd dX12_copy_109 ?_
                    refine w_aload_n 0 ((some (57))) dX12_copy_110 rfl rfl ?_
                    refine w_get (v := va_rf (some 59)) dX12_copy_111 fl_RX12_13 ⟨rfl, Or.inr ⟨rfl, by decide⟩⟩ (aFv_k rfl) ?_
                    refine w_iload_n 3 dX12_copy_114 rfl rfl ?_
                    replace h := e_grd h; obtain ⟨b19, h⟩ := h
                    refine w_iaload dX12_copy_115 ⟨rfl, Or.inr ⟨rfl, by decide⟩⟩ b19 ?_
                    refine w_i2l dX12_copy_116 ?_
                    refine w_lcmp dX12_copy_117 ?_
                    refine w_if_le 127 dX12_copy_118 (by decide) (fun c20 => ?_) (fun c20 => ?_)
                    · replace h := e_t c20 h
                      refine w_iload_n 2 dX12_copy_127 rfl rfl ?_
                      refine w_iload 4 dX12_copy_128 rfl ?_
                      refine w_icmp_lt 137 dX12_copy_130 (by decide) (fun c21 => ?_) (fun c21 => ?_)
                      · replace h := e_t c21 h
                        refine w_iconst (v := 0) dX12_copy_137 (by decide) ?_
                        exact l_X12_copy_138 _ _ _ _ _ _ _ _ h
                      · replace h := e_f c21 h
                        refine w_iconst (v := 1) dX12_copy_133 (by decide) ?_
                        refine w_goto 138 dX12_copy_134 (by decide) ?_
                        exact l_X12_copy_138 _ _ _ _ _ _ _ _ h
                    · replace h := e_f c20 h
                      refine w_sub [0] rfl ?_
                      exact l_X12_copy_121 _ _ h
          · replace h := e_f c13 h
            refine w_aload_n 0 ((some (57))) dX12_copy_66 rfl rfl ?_
            refine w_iconst (v := 5) dX12_copy_67 (by decide) ?_
            replace h := e_bind h; obtain ⟨q22, e23, h⟩ := h
            refine w_callV1 (M2 := m_X12_found) (av := [.int (5)]) (ci := 12) (c_X12_found _ _ _ e23) dX12_copy_68 kd_X12_found wd_11_6 wd_11_7 wd_11_8 rfl rfl ⟨rfl, Or.inr ⟨rfl, by decide⟩⟩ rfl ⟨Nat.le_of_ble_eq_true rfl, Nat.le_of_ble_eq_true rfl, Nat.le_of_ble_eq_true rfl, Nat.le_of_ble_eq_true rfl⟩ (Nat.le_of_ble_eq_true rfl) ?_
            obtain rfl := Option.some.inj h
            exact w_ireturn dX12_copy_71 rfl (Nat.le_of_ble_eq_true rfl) (Nat.le_of_ble_eq_true rfl)
        · replace h := e_f c10 h
          refine w_sub [0] rfl ?_
          exact l_X12_copy_45 _ _ h
    · replace h := e_t c6 h
      refine w_sub [] rfl ?_
      exact l_X12_copy_19 _ _ h
theorem dX12_drop_0 : decode cX12_drop 0 = .ok (.aload_n 0, 1) := by decide +kernel
theorem dX12_drop_1 : decode cX12_drop 1 = .ok (.iconst 0, 1) := by decide +kernel
theorem dX12_drop_2 : decode cX12_drop 2 = .ok (.putfield 102, 3) := by decide +kernel
theorem dX12_drop_5 : decode cX12_drop 5 = .ok (.iload_n 1, 1) := by decide +kernel
theorem dX12_drop_6 : decode cX12_drop 6 = .ok (.invokestatic 115, 3) := by decide +kernel
theorem dX12_drop_9 : decode cX12_drop 9 = .ok (.ifCond .ne 6, 3) := by decide +kernel
theorem dX12_drop_12 : decode cX12_drop 12 = .ok (.ldc 121, 2) := by decide +kernel
theorem dX12_drop_14 : decode cX12_drop 14 = .ok (.ireturn, 1) := by decide +kernel
theorem dX12_drop_15 : decode cX12_drop 15 = .ok (.aload_n 0, 1) := by decide +kernel
theorem dX12_drop_16 : decode cX12_drop 16 = .ok (.iconst 0, 1) := by decide +kernel
theorem dX12_drop_17 : decode cX12_drop 17 = .ok (.putfield 105, 3) := by decide +kernel
theorem dX12_drop_20 : decode cX12_drop 20 = .ok (.aload_n 0, 1) := by decide +kernel
theorem dX12_drop_21 : decode cX12_drop 21 = .ok (.getfield 7, 3) := by decide +kernel
theorem dX12_drop_24 : decode cX12_drop 24 = .ok (.iload_n 1, 1) := by decide +kernel
theorem dX12_drop_25 : decode cX12_drop 25 = .ok (.iaload, 1) := by decide +kernel
theorem dX12_drop_26 : decode cX12_drop 26 = .ok (.ifCond .ge 9, 3) := by decide +kernel
theorem dX12_drop_29 : decode cX12_drop 29 = .ok (.aload_n 0, 1) := by decide +kernel
theorem dX12_drop_30 : decode cX12_drop 30 = .ok (.iconst 1, 1) := by decide +kernel
theorem dX12_drop_31 : decode cX12_drop 31 = .ok (.invokevirtual 122, 3) := by decide +kernel
theorem dX12_drop_34 : decode cX12_drop 34 = .ok (.ireturn, 1) := by decide +kernel
theorem dX12_drop_35 : decode cX12_drop 35 = .ok (.aload_n 0, 1) := by decide +kernel
theorem dX12_drop_36 : decode cX12_drop 36 = .ok (.getfield 7, 3) := by decide +kernel
theorem dX12_drop_39 : decode cX12_drop 39 = .ok (.iload_n 1, 1) := by decide +kernel
theorem dX12_drop_40 : decode cX12_drop 40 = .ok (.iconst (-1), 1) := by decide +kernel
theorem dX12_drop_41 : decode cX12_drop 41 = .ok (.iastore, 1) := by decide +kernel
theorem dX12_drop_42 : decode cX12_drop 42 = .ok (.aload_n 0, 1) := by decide +kernel
theorem dX12_drop_43 : decode cX12_drop 43 = .ok (.getfield 13, 3) := by decide +kernel
theorem dX12_drop_46 : decode cX12_drop 46 = .ok (.iload_n 1, 1) := by decide +kernel
theorem dX12_drop_47 : decode cX12_drop 47 = .ok (.iaload, 1) := by decide +kernel
theorem dX12_drop_48 : decode cX12_drop 48 = .ok (.ireturn, 1) := by decide +kernel
theorem kd_X12_drop : aKd m_X12_drop 1 := ⟨wd_13_3, wd_1_5, ⟨by decide +kernel, by decide +kernel, by decide +kernel⟩⟩
set_option maxRecDepth 100000 in
set_option maxHeartbeats 4000000 in
theorem c_X12_drop (p1 : Int32) (σ : aSt) (o : Int32 × aSt) (h : f_X12_drop p1 σ = some o) : AM true m_X12_drop [va_rf (some (57)), .int (p1)] σ (some (.int o.1)) o.2 := by
  refine AM_of2 (lv := [(0, va_rf (some (57))), (1, Value.int (p1))]) (by decide +kernel) rfl (Nat.le_of_ble_eq_true rfl) ?_
  unfold f_X12_drop at h
  refine w_aload_n 0 ((some (57))) dX12_drop_0 rfl rfl ?_
  refine w_iconst (v := 0) dX12_drop_1 (by decide) ?_
  refine w_putI dX12_drop_2 fl_RX12_102 (Or.inl rfl) rfl ⟨rfl, Or.inr ⟨rfl, by decide⟩⟩ ?_
  refine w_iload_n 1 dX12_drop_5 rfl rfl ?_
  replace h := e_bind h; obtain ⟨q1, e2, h⟩ := h
  refine w_callS1 (M2 := m_X12_isSheet) (av := [.int (p1)]) (c_X12_isSheet _ _ _ e2) dX12_drop_6 kd_X12_isSheet wd_10_23 wd_11_0 rfl rfl ⟨Nat.le_of_ble_eq_true rfl, Nat.le_of_ble_eq_true rfl, Nat.le_of_ble_eq_true rfl, Nat.le_of_ble_eq_true rfl⟩ (Nat.le_of_ble_eq_true rfl) ?_
  refine w_if_ne 15 dX12_drop_9 (by decide) (fun c3 => ?_) (fun c3 => ?_)
  · replace h := e_f c3 h
    refine w_aload_n 0 ((some (57))) dX12_drop_15 rfl rfl ?_
    refine w_iconst (v := 0) dX12_drop_16 (by decide) ?_
    refine w_putI dX12_drop_17 fl_RX12_105 (Or.inl rfl) rfl ⟨rfl, Or.inr ⟨rfl, by decide⟩⟩ ?_
    refine w_aload_n 0 ((some (57))) dX12_drop_20 rfl rfl ?_
    refine w_get (v := va_rf (some 58)) dX12_drop_21 fl_RX12_7 ⟨rfl, Or.inr ⟨rfl, by decide⟩⟩ (aFv_k rfl) ?_
    refine w_iload_n 1 dX12_drop_24 rfl rfl ?_
    replace h := e_grd h; obtain ⟨b4, h⟩ := h
    refine w_iaload dX12_drop_25 ⟨rfl, Or.inr ⟨rfl, by decide⟩⟩ b4 ?_
    refine w_if_ge 35 dX12_drop_26 (by decide) (fun c5 => ?_) (fun c5 => ?_)
    · replace h := e_t c5 h
      refine w_aload_n 0 ((some (57))) dX12_drop_35 rfl rfl ?_
      refine w_get (v := va_rf (some 58)) dX12_drop_36 fl_RX12_7 ⟨rfl, Or.inr ⟨rfl, by decide⟩⟩ (aFv_k rfl) ?_
      refine w_iload_n 1 dX12_drop_39 rfl rfl ?_
      refine w_iconst (v := (-1)) dX12_drop_40 (by decide) ?_
      replace h := e_grd h; obtain ⟨b6, h⟩ := h
      refine w_iastore dX12_drop_41 ⟨rfl, Or.inr ⟨rfl, by decide⟩⟩ b6 ?_
      refine w_aload_n 0 ((some (57))) dX12_drop_42 rfl rfl ?_
      refine w_get (v := va_rf (some 59)) dX12_drop_43 fl_RX12_13 ⟨rfl, Or.inr ⟨rfl, by decide⟩⟩ (aFv_k rfl) ?_
      refine w_iload_n 1 dX12_drop_46 rfl rfl ?_
      replace h := e_grd h; obtain ⟨b7, h⟩ := h
      refine w_iaload dX12_drop_47 ⟨rfl, Or.inr ⟨rfl, by decide⟩⟩ b7 ?_
      obtain rfl := Option.some.inj h
      exact w_ireturn dX12_drop_48 rfl (Nat.le_of_ble_eq_true rfl) (Nat.le_of_ble_eq_true rfl)
    · replace h := e_f c5 h
      refine w_aload_n 0 ((some (57))) dX12_drop_29 rfl rfl ?_
      refine w_iconst (v := 1) dX12_drop_30 (by decide) ?_
      replace h := e_bind h; obtain ⟨q8, e9, h⟩ := h
      refine w_callV1 (M2 := m_X12_found) (av := [.int (1)]) (ci := 12) (c_X12_found _ _ _ e9) dX12_drop_31 kd_X12_found wd_11_6 wd_11_7 wd_11_8 rfl rfl ⟨rfl, Or.inr ⟨rfl, by decide⟩⟩ rfl ⟨Nat.le_of_ble_eq_true rfl, Nat.le_of_ble_eq_true rfl, Nat.le_of_ble_eq_true rfl, Nat.le_of_ble_eq_true rfl⟩ (Nat.le_of_ble_eq_true rfl) ?_
      obtain rfl := Option.some.inj h
      exact w_ireturn dX12_drop_34 rfl (Nat.le_of_ble_eq_true rfl) (Nat.le_of_ble_eq_true rfl)
  · replace h := e_t c3 h
    refine w_ldc (v := (-1000001)) dX12_drop_12 wd_10_21 ?_
    obtain rfl := Option.some.inj h
    exact w_ireturn dX12_drop_14 rfl (Nat.le_of_ble_eq_true rfl) (Nat.le_of_ble_eq_true rfl)
theorem dX12_numberOf_0 : decode cX12_numberOf 0 = .ok (.ldc 126, 2) := by decide +kernel
theorem dX12_numberOf_2 : decode cX12_numberOf 2 = .ok (.istore_n 2, 1) := by decide +kernel
theorem dX12_numberOf_3 : decode cX12_numberOf 3 = .ok (.iconst 0, 1) := by decide +kernel
theorem dX12_numberOf_4 : decode cX12_numberOf 4 = .ok (.istore_n 3, 1) := by decide +kernel
theorem dX12_numberOf_5 : decode cX12_numberOf 5 = .ok (.iload_n 3, 1) := by decide +kernel
theorem dX12_numberOf_6 : decode cX12_numberOf 6 = .ok (.aload_n 0, 1) := by decide +kernel
theorem dX12_numberOf_7 : decode cX12_numberOf 7 = .ok (.getfield 127, 3) := by decide +kernel
theorem dX12_numberOf_10 : decode cX12_numberOf 10 = .ok (.if_icmp .ge 25, 3) := by decide +kernel
theorem dX12_numberOf_13 : decode cX12_numberOf 13 = .ok (.aload_n 0, 1) := by decide +kernel
theorem dX12_numberOf_14 : decode cX12_numberOf 14 = .ok (.getfield 19, 3) := by decide +kernel
theorem dX12_numberOf_17 : decode cX12_numberOf 17 = .ok (.iload_n 3, 1) := by decide +kernel
theorem dX12_numberOf_18 : decode cX12_numberOf 18 = .ok (.iaload, 1) := by decide +kernel
theorem dX12_numberOf_19 : decode cX12_numberOf 19 = .ok (.iload_n 1, 1) := by decide +kernel
theorem dX12_numberOf_20 : decode cX12_numberOf 20 = .ok (.if_icmp .ne 7, 3) := by decide +kernel
theorem dX12_numberOf_23 : decode cX12_numberOf 23 = .ok (.iload_n 3, 1) := by decide +kernel
theorem dX12_numberOf_24 : decode cX12_numberOf 24 = .ok (.goto 4, 3) := by decide +kernel
theorem dX12_numberOf_27 : decode cX12_numberOf 27 = .ok (.iload_n 2, 1) := by decide +kernel
theorem dX12_numberOf_28 : decode cX12_numberOf 28 = .ok (.istore_n 2, 1) := by decide +kernel
theorem dX12_numberOf_29 : decode cX12_numberOf 29 = .ok (.iinc 3 1, 3) := by decide +kernel
theorem dX12_numberOf_32 : decode cX12_numberOf 32 = .ok (.goto (-27), 3) := by decide +kernel
theorem dX12_numberOf_35 : decode cX12_numberOf 35 = .ok (.iload_n 2, 1) := by decide +kernel
theorem dX12_numberOf_36 : decode cX12_numberOf 36 = .ok (.ireturn, 1) := by decide +kernel
theorem kd_X12_numberOf : aKd m_X12_numberOf 1 := ⟨wd_15_18, wd_1_5, ⟨by decide +kernel, by decide +kernel, by decide +kernel⟩⟩
set_option maxRecDepth 100000 in
set_option maxHeartbeats 4000000 in
theorem l_X12_numberOf_28 (rec5 : Int32 → Int32 → Int32 → aSt → Option (Int32 × aSt)) (hrec5 : ∀ (x1 : Int32) (x2 : Int32) (x3 : Int32) (σ : aSt) (o : Int32 × aSt), rec5 x1 x2 x3 σ = some o → AW true m_X12_numberOf 5 [(0, va_rf (some (57))), (1, Value.int (x1)), (2, Value.int (x2)), (3, Value.int (x3))] [] σ 0 0 (some (.int o.1)) o.2) (x1 : Int32) (x3 : Int32) (t0 : Int32) (σ : aSt) (o : Int32 × aSt) (h : f_X12_numberOf_28 rec5 x1 x3 t0 σ = some o) : AW true m_X12_numberOf 28 [(0, va_rf (some (57))), (1, Value.int (x1)), (3, Value.int (x3))] [.int (t0)] σ 0 0 (some (.int o.1)) o.2 := by
  unfold f_X12_numberOf_28 at h
  refine w_istore_n dX12_numberOf_28 rfl (by decide) rfl ?_
  refine w_iinc (q := 3) (v := x3 + 1) dX12_numberOf_29 rfl rfl (by decide) rfl ?_
  refine w_goto 5 dX12_numberOf_32 (by decide) ?_
  refine w_sub [2, 3, 1, 0] rfl ?_
  exact hrec5 _ _ _ _ _ h
set_option maxRecDepth 100000 in
set_option maxHeartbeats 4000000 in
theorem l_X12_numberOf_5_b (rec5 : Int32 → Int32 → Int32 → aSt → Option (Int32 × aSt)) (hrec5 : ∀ (x1 : Int32) (x2 : Int32) (x3 : Int32) (σ : aSt) (o : Int32 × aSt), rec5 x1 x2 x3 σ = some o → AW true m_X12_numberOf 5 [(0, va_rf (some (57))), (1, Value.int (x1)), (2, Value.int (x2)), (3, Value.int (x3))] [] σ 0 0 (some (.int o.1)) o.2) (x1 : Int32) (x2 : Int32) (x3 : Int32) (σ : aSt) (o : Int32 × aSt) (h : f_X12_numberOf_5_b rec5 x1 x2 x3 σ = some o) : AW true m_X12_numberOf 5 [(0, va_rf (some (57))), (1, Value.int (x1)), (2, Value.int (x2)), (3, Value.int (x3))] [] σ 0 0 (some (.int o.1)) o.2 := by
  unfold f_X12_numberOf_5_b at h
  refine w_iload_n 3 dX12_numberOf_5 rfl rfl ?_
  refine w_aload_n 0 ((some (57))) dX12_numberOf_6 rfl rfl ?_
  refine w_get dX12_numberOf_7 fl_RX12_127 ⟨rfl, Or.inr ⟨rfl, by decide⟩⟩ (aFv_i rfl) ?_
  refine w_icmp_ge 35 dX12_numberOf_10 (by decide) (fun c1 => ?_) (fun c1 => ?_)
  · replace h := e_t c1 h
    refine w_iload_n 2 dX12_numberOf_35 rfl rfl ?_
    obtain rfl := Option.some.inj h
    exact w_ireturn dX12_numberOf_36 rfl (Nat.le_of_ble_eq_true rfl) (Nat.le_of_ble_eq_true rfl)
  · replace h := e_f c1 h
    refine w_aload_n 0 ((some (57))) dX12_numberOf_13 rfl rfl ?_
    refine w_get (v := va_rf (some 61)) dX12_numberOf_14 fl_RX12_19 ⟨rfl, Or.inr ⟨rfl, by decide⟩⟩ (aFv_k rfl) ?_
    refine w_iload_n 3 dX12_numberOf_17 rfl rfl ?_
    replace h := e_grd h; obtain ⟨b2, h⟩ := h
    refine w_iaload dX12_numberOf_18 ⟨rfl, Or.inr ⟨rfl, by decide⟩⟩ b2 ?_
    refine w_iload_n 1 dX12_numberOf_19 rfl rfl ?_
    refine w_icmp_ne 27 dX12_numberOf_20 (by decide) (fun c3 => ?_) (fun c3 => ?_)
    · replace h := e_f c3 h
      refine w_iload_n 2 dX12_numberOf_27 rfl rfl ?_
      refine w_sub [0, 1, 3] rfl ?_
      exact l_X12_numberOf_28 rec5 hrec5 _ _ _ _ _ h
    · replace h := e_t c3 h
      refine w_iload_n 3 dX12_numberOf_23 rfl rfl ?_
      refine w_goto 28 dX12_numberOf_24 (by decide) ?_
      refine w_sub [0, 1, 3] rfl ?_
      exact l_X12_numberOf_28 rec5 hrec5 _ _ _ _ _ h
theorem l_X12_numberOf_5  : ∀ (n : Nat) (x1 : Int32) (x2 : Int32) (x3 : Int32) (σ : aSt) (o : Int32 × aSt), f_X12_numberOf_5  n x1 x2 x3 σ = some o → AW true m_X12_numberOf 5 [(0, va_rf (some (57))), (1, Value.int (x1)), (2, Value.int (x2)), (3, Value.int (x3))] [] σ 0 0 (some (.int o.1)) o.2
  | 0 => fun x1 x2 x3 σ o h => by cases h
  | n + 1 => fun x1 x2 x3 σ o h => l_X12_numberOf_5_b (f_X12_numberOf_5  n) (l_X12_numberOf_5  n) x1 x2 x3 σ o h
set_option maxRecDepth 100000 in
set_option maxHeartbeats 4000000 in
theorem c_X12_numberOf (p1 : Int32) (σ : aSt) (o : Int32 × aSt) (h : f_X12_numberOf p1 σ = some o) : AM true m_X12_numberOf [va_rf (some (57)), .int (p1)] σ (some (.int o.1)) o.2 := by
  refine AM_of2 (lv := [(0, va_rf (some (57))), (1, Value.int (p1))]) (by decide +kernel) rfl (Nat.le_of_ble_eq_true rfl) ?_
  unfold f_X12_numberOf at h
  refine w_ldc (v := (-1000000)) dX12_numberOf_0 wd_15_11 ?_
  refine w_istore_n dX12_numberOf_2 rfl (by decide) rfl ?_
  refine w_iconst (v := 0) dX12_numberOf_3 (by decide) ?_
  refine w_istore_n dX12_numberOf_4 rfl (by decide) rfl ?_
  refine w_sub [2, 3, 1, 0] rfl ?_
  exact l_X12_numberOf_5 aN _ _ _ _ _ h
theorem dX12_isBefore_0 : decode cX12_isBefore 0 = .ok (.aload_n 0, 1) := by decide +kernel
theorem dX12_isBefore_1 : decode cX12_isBefore 1 = .ok (.getfield 22, 3) := by decide +kernel
theorem dX12_isBefore_4 : decode cX12_isBefore 4 = .ok (.iload_n 1, 1) := by decide +kernel
theorem dX12_isBefore_5 : decode cX12_isBefore 5 = .ok (.iaload, 1) := by decide +kernel
theorem dX12_isBefore_6 : decode cX12_isBefore 6 = .ok (.aload_n 0, 1) := by decide +kernel
theorem dX12_isBefore_7 : decode cX12_isBefore 7 = .ok (.getfield 22, 3) := by decide +kernel
theorem dX12_isBefore_10 : decode cX12_isBefore 10 = .ok (.iload_n 2, 1) := by decide +kernel
theorem dX12_isBefore_11 : decode cX12_isBefore 11 = .ok (.iaload, 1) := by decide +kernel
theorem dX12_isBefore_12 : decode cX12_isBefore 12 = .ok (.if_icmp .lt 33, 3) := by decide +kernel
theorem dX12_isBefore_15 : decode cX12_isBefore 15 = .ok (.aload_n 0, 1) := by decide +kernel
theorem dX12_isBefore_16 : decode cX12_isBefore 16 = .ok (.getfield 22, 3) := by decide +kernel
theorem dX12_isBefore_19 : decode cX12_isBefore 19 = .ok (.iload_n 1, 1) := by decide +kernel
theorem dX12_isBefore_20 : decode cX12_isBefore 20 = .ok (.iaload, 1) := by decide +kernel
theorem dX12_isBefore_21 : decode cX12_isBefore 21 = .ok (.aload_n 0, 1) := by decide +kernel
theorem dX12_isBefore_22 : decode cX12_isBefore 22 = .ok (.getfield 22, 3) := by decide +kernel
theorem dX12_isBefore_25 : decode cX12_isBefore 25 = .ok (.iload_n 2, 1) := by decide +kernel
theorem dX12_isBefore_26 : decode cX12_isBefore 26 = .ok (.iaload, 1) := by decide +kernel
theorem dX12_isBefore_27 : decode cX12_isBefore 27 = .ok (.if_icmp .ne 22, 3) := by decide +kernel
theorem dX12_isBefore_30 : decode cX12_isBefore 30 = .ok (.aload_n 0, 1) := by decide +kernel
theorem dX12_isBefore_31 : decode cX12_isBefore 31 = .ok (.getfield 19, 3) := by decide +kernel
theorem dX12_isBefore_34 : decode cX12_isBefore 34 = .ok (.iload_n 1, 1) := by decide +kernel
theorem dX12_isBefore_35 : decode cX12_isBefore 35 = .ok (.iaload, 1) := by decide +kernel
theorem dX12_isBefore_36 : decode cX12_isBefore 36 = .ok (.aload_n 0, 1) := by decide +kernel
theorem dX12_isBefore_37 : decode cX12_isBefore 37 = .ok (.getfield 19, 3) := by decide +kernel
theorem dX12_isBefore_40 : decode cX12_isBefore 40 = .ok (.iload_n 2, 1) := by decide +kernel
theorem dX12_isBefore_41 : decode cX12_isBefore 41 = .ok (.iaload, 1) := by decide +kernel
theorem dX12_isBefore_42 : decode cX12_isBefore 42 = .ok (.if_icmp .ge 7, 3) := by decide +kernel
theorem dX12_isBefore_45 : decode cX12_isBefore 45 = .ok (.iconst 1, 1) := by decide +kernel
theorem dX12_isBefore_46 : decode cX12_isBefore 46 = .ok (.goto 4, 3) := by decide +kernel
theorem dX12_isBefore_49 : decode cX12_isBefore 49 = .ok (.iconst 0, 1) := by decide +kernel
theorem dX12_isBefore_50 : decode cX12_isBefore 50 = .ok (.ireturn, 1) := by decide +kernel
theorem kd_X12_isBefore : aKd m_X12_isBefore 2 := ⟨wd_15_22, wd_1_5, ⟨by decide +kernel, by decide +kernel, by decide +kernel⟩⟩
set_option maxRecDepth 100000 in
set_option maxHeartbeats 4000000 in
theorem l_X12_isBefore_50  (t0 : Int32) (σ : aSt) (o : Int32 × aSt) (h : f_X12_isBefore_50  t0 σ = some o) : AW true m_X12_isBefore 50 [] [.int (t0)] σ 0 0 (some (.int o.1)) o.2 := by
  unfold f_X12_isBefore_50 at h
  replace h := e_grd h; obtain ⟨g10, h⟩ := h
  obtain rfl := Option.some.inj h
  exact w_zreturn dX12_isBefore_50 rfl (e_nz g10) (Nat.le_of_ble_eq_true rfl) (Nat.le_of_ble_eq_true rfl)
set_option maxRecDepth 100000 in
set_option maxHeartbeats 4000000 in
theorem l_X12_isBefore_45   (σ : aSt) (o : Int32 × aSt) (h : f_X12_isBefore_45   σ = some o) : AW true m_X12_isBefore 45 [] [] σ 0 0 (some (.int o.1)) o.2 := by
  unfold f_X12_isBefore_45 at h
  refine w_iconst (v := 1) dX12_isBefore_45 (by decide) ?_
  refine w_goto 50 dX12_isBefore_46 (by decide) ?_
  exact l_X12_isBefore_50 _ _ _ h
set_option maxRecDepth 100000 in
set_option maxHeartbeats 4000000 in
theorem l_X12_isBefore_49   (σ : aSt) (o : Int32 × aSt) (h : f_X12_isBefore_49   σ = some o) : AW true m_X12_isBefore 49 [] [] σ 0 0 (some (.int o.1)) o.2 := by
  unfold f_X12_isBefore_49 at h
  refine w_iconst (v := 0) dX12_isBefore_49 (by decide) ?_
  exact l_X12_isBefore_50 _ _ _ h
set_option maxRecDepth 100000 in
set_option maxHeartbeats 4000000 in
theorem c_X12_isBefore (p1 : Int32) (p2 : Int32) (σ : aSt) (o : Int32 × aSt) (h : f_X12_isBefore p1 p2 σ = some o) : AM true m_X12_isBefore [va_rf (some (57)), .int (p1), .int (p2)] σ (some (.int o.1)) o.2 := by
  refine AM_of2 (lv := [(0, va_rf (some (57))), (1, Value.int (p1)), (2, Value.int (p2))]) (by decide +kernel) rfl (Nat.le_of_ble_eq_true rfl) ?_
  unfold f_X12_isBefore at h
  refine w_aload_n 0 ((some (57))) dX12_isBefore_0 rfl rfl ?_
  refine w_get (v := va_rf (some 62)) dX12_isBefore_1 fl_RX12_22 ⟨rfl, Or.inr ⟨rfl, by decide⟩⟩ (aFv_k rfl) ?_
  refine w_iload_n 1 dX12_isBefore_4 rfl rfl ?_
  replace h := e_grd h; obtain ⟨b1, h⟩ := h
  refine w_iaload dX12_isBefore_5 ⟨rfl, Or.inr ⟨rfl, by decide⟩⟩ b1 ?_
  refine w_aload_n 0 ((some (57))) dX12_isBefore_6 rfl rfl ?_
  refine w_get (v := va_rf (some 62)) dX12_isBefore_7 fl_RX12_22 ⟨rfl, Or.inr ⟨rfl, by decide⟩⟩ (aFv_k rfl) ?_
  refine w_iload_n 2 dX12_isBefore_10 rfl rfl ?_
  replace h := e_grd h; obtain ⟨b2, h⟩ := h
  refine w_iaload dX12_isBefore_11 ⟨rfl, Or.inr ⟨rfl, by decide⟩⟩ b2 ?_
  refine w_icmp_lt 45 dX12_isBefore_12 (by decide) (fun c3 => ?_) (fun c3 => ?_)
  · replace h := e_t c3 h
    refine w_sub [] rfl ?_
    exact l_X12_isBefore_45 _ _ h
  · replace h := e_f c3 h
    refine w_aload_n 0 ((some (57))) dX12_isBefore_15 rfl rfl ?_
    refine w_get (v := va_rf (some 62)) dX12_isBefore_16 fl_RX12_22 ⟨rfl, Or.inr ⟨rfl, by decide⟩⟩ (aFv_k rfl) ?_
    refine w_iload_n 1 dX12_isBefore_19 rfl rfl ?_
    replace h := e_grd h; obtain ⟨b4, h⟩ := h
    refine w_iaload dX12_isBefore_20 ⟨rfl, Or.inr ⟨rfl, by decide⟩⟩ b4 ?_
    refine w_aload_n 0 ((some (57))) dX12_isBefore_21 rfl rfl ?_
    refine w_get (v := va_rf (some 62)) dX12_isBefore_22 fl_RX12_22 ⟨rfl, Or.inr ⟨rfl, by decide⟩⟩ (aFv_k rfl) ?_
    refine w_iload_n 2 dX12_isBefore_25 rfl rfl ?_
    replace h := e_grd h; obtain ⟨b5, h⟩ := h
    refine w_iaload dX12_isBefore_26 ⟨rfl, Or.inr ⟨rfl, by decide⟩⟩ b5 ?_
    refine w_icmp_ne 49 dX12_isBefore_27 (by decide) (fun c6 => ?_) (fun c6 => ?_)
    · replace h := e_f c6 h
      refine w_sub [] rfl ?_
      exact l_X12_isBefore_49 _ _ h
    · replace h := e_t c6 h
      refine w_aload_n 0 ((some (57))) dX12_isBefore_30 rfl rfl ?_
      refine w_get (v := va_rf (some 61)) dX12_isBefore_31 fl_RX12_19 ⟨rfl, Or.inr ⟨rfl, by decide⟩⟩ (aFv_k rfl) ?_
      refine w_iload_n 1 dX12_isBefore_34 rfl rfl ?_
      replace h := e_grd h; obtain ⟨b7, h⟩ := h
      refine w_iaload dX12_isBefore_35 ⟨rfl, Or.inr ⟨rfl, by decide⟩⟩ b7 ?_
      refine w_aload_n 0 ((some (57))) dX12_isBefore_36 rfl rfl ?_
      refine w_get (v := va_rf (some 61)) dX12_isBefore_37 fl_RX12_19 ⟨rfl, Or.inr ⟨rfl, by decide⟩⟩ (aFv_k rfl) ?_
      refine w_iload_n 2 dX12_isBefore_40 rfl rfl ?_
      replace h := e_grd h; obtain ⟨b8, h⟩ := h
      refine w_iaload dX12_isBefore_41 ⟨rfl, Or.inr ⟨rfl, by decide⟩⟩ b8 ?_
      refine w_icmp_ge 49 dX12_isBefore_42 (by decide) (fun c9 => ?_) (fun c9 => ?_)
      · replace h := e_t c9 h
        refine w_sub [] rfl ?_
        exact l_X12_isBefore_49 _ _ h
      · replace h := e_f c9 h
        refine w_sub [] rfl ?_
        exact l_X12_isBefore_45 _ _ h
theorem dX12_coming_0 : decode cX12_coming 0 = .ok (.iload_n 1, 1) := by decide +kernel
theorem dX12_coming_1 : decode cX12_coming 1 = .ok (.i2l, 1) := by decide +kernel
theorem dX12_coming_2 : decode cX12_coming 2 = .ok (.lconst 0, 1) := by decide +kernel
theorem dX12_coming_3 : decode cX12_coming 3 = .ok (.ldc2_w 130, 3) := by decide +kernel
theorem dX12_coming_6 : decode cX12_coming 6 = .ok (.invokestatic 111, 3) := by decide +kernel
theorem dX12_coming_9 : decode cX12_coming 9 = .ok (.ifCond .eq 72, 3) := by decide +kernel
theorem dX12_coming_12 : decode cX12_coming 12 = .ok (.iload_n 2, 1) := by decide +kernel
theorem dX12_coming_13 : decode cX12_coming 13 = .ok (.i2l, 1) := by decide +kernel
theorem dX12_coming_14 : decode cX12_coming 14 = .ok (.lconst 0, 1) := by decide +kernel
theorem dX12_coming_15 : decode cX12_coming 15 = .ok (.ldc2_w 132, 3) := by decide +kernel
theorem dX12_coming_18 : decode cX12_coming 18 = .ok (.invokestatic 111, 3) := by decide +kernel
theorem dX12_coming_21 : decode cX12_coming 21 = .ok (.ifCond .eq 60, 3) := by decide +kernel
theorem dX12_coming_24 : decode cX12_coming 24 = .ok (.iload_n 3, 1) := by decide +kernel
theorem dX12_coming_25 : decode cX12_coming 25 = .ok (.i2l, 1) := by decide +kernel
theorem dX12_coming_26 : decode cX12_coming 26 = .ok (.lconst 0, 1) := by decide +kernel
theorem dX12_coming_27 : decode cX12_coming 27 = .ok (.ldc2_w 134, 3) := by decide +kernel
theorem dX12_coming_30 : decode cX12_coming 30 = .ok (.invokestatic 111, 3) := by decide +kernel
theorem dX12_coming_33 : decode cX12_coming 33 = .ok (.ifCond .eq 48, 3) := by decide +kernel
theorem dX12_coming_36 : decode cX12_coming 36 = .ok (.iload 4, 2) := by decide +kernel
theorem dX12_coming_38 : decode cX12_coming 38 = .ok (.i2l, 1) := by decide +kernel
theorem dX12_coming_39 : decode cX12_coming 39 = .ok (.lconst 0, 1) := by decide +kernel
theorem dX12_coming_40 : decode cX12_coming 40 = .ok (.ldc2_w 134, 3) := by decide +kernel
theorem dX12_coming_43 : decode cX12_coming 43 = .ok (.invokestatic 111, 3) := by decide +kernel
theorem dX12_coming_46 : decode cX12_coming 46 = .ok (.ifCond .eq 35, 3) := by decide +kernel
theorem dX12_coming_49 : decode cX12_coming 49 = .ok (.iload_n 3, 1) := by decide +kernel
theorem dX12_coming_50 : decode cX12_coming 50 = .ok (.iload 4, 2) := by decide +kernel
theorem dX12_coming_52 : decode cX12_coming 52 = .ok (.if_icmp .eq 29, 3) := by decide +kernel
theorem dX12_coming_55 : decode cX12_coming 55 = .ok (.iload 5, 2) := by decide +kernel
theorem dX12_coming_57 : decode cX12_coming 57 = .ok (.i2l, 1) := by decide +kernel
theorem dX12_coming_58 : decode cX12_coming 58 = .ok (.lconst 1, 1) := by decide +kernel
theorem dX12_coming_59 : decode cX12_coming 59 = .ok (.ldc2_w 132, 3) := by decide +kernel
theorem dX12_coming_62 : decode cX12_coming 62 = .ok (.invokestatic 111, 3) := by decide +kernel
theorem dX12_coming_65 : decode cX12_coming 65 = .ok (.ifCond .eq 16, 3) := by decide +kernel
theorem dX12_coming_68 : decode cX12_coming 68 = .ok (.iload 6, 2) := by decide +kernel
theorem dX12_coming_70 : decode cX12_coming 70 = .ok (.i2l, 1) := by decide +kernel
theorem dX12_coming_71 : decode cX12_coming 71 = .ok (.lconst 0, 1) := by decide +kernel
theorem dX12_coming_72 : decode cX12_coming 72 = .ok (.ldc2_w 136, 3) := by decide +kernel
theorem dX12_coming_75 : decode cX12_coming 75 = .ok (.invokestatic 111, 3) := by decide +kernel
theorem dX12_coming_78 : decode cX12_coming 78 = .ok (.ifCond .ne 6, 3) := by decide +kernel
theorem dX12_coming_81 : decode cX12_coming 81 = .ok (.ldc 121, 2) := by decide +kernel
theorem dX12_coming_83 : decode cX12_coming 83 = .ok (.ireturn, 1) := by decide +kernel
theorem dX12_coming_84 : decode cX12_coming 84 = .ok (.aload_n 0, 1) := by decide +kernel
theorem dX12_coming_85 : decode cX12_coming 85 = .ok (.iload_n 1, 1) := by decide +kernel
theorem dX12_coming_86 : decode cX12_coming 86 = .ok (.invokevirtual 138, 3) := by decide +kernel
theorem dX12_coming_89 : decode cX12_coming 89 = .ok (.ldc 126, 2) := by decide +kernel
theorem dX12_coming_91 : decode cX12_coming 91 = .ok (.if_icmp .eq 6, 3) := by decide +kernel
theorem dX12_coming_94 : decode cX12_coming 94 = .ok (.ldc 141, 2) := by decide +kernel
theorem dX12_coming_96 : decode cX12_coming 96 = .ok (.ireturn, 1) := by decide +kernel
theorem dX12_coming_97 : decode cX12_coming 97 = .ok (.aload_n 0, 1) := by decide +kernel
theorem dX12_coming_98 : decode cX12_coming 98 = .ok (.getfield 127, 3) := by decide +kernel
theorem dX12_coming_101 : decode cX12_coming 101 = .ok (.bipush 120, 2) := by decide +kernel
theorem dX12_coming_103 : decode cX12_coming 103 = .ok (.if_icmp .ne 6, 3) := by decide +kernel
theorem dX12_coming_106 : decode cX12_coming 106 = .ok (.ldc 142, 2) := by decide +kernel
theorem dX12_coming_108 : decode cX12_coming 108 = .ok (.ireturn, 1) := by decide +kernel
theorem dX12_coming_109 : decode cX12_coming 109 = .ok (.aload_n 0, 1) := by decide +kernel
theorem dX12_coming_110 : decode cX12_coming 110 = .ok (.getfield 127, 3) := by decide +kernel
theorem dX12_coming_113 : decode cX12_coming 113 = .ok (.istore 7, 2) := by decide +kernel
theorem dX12_coming_115 : decode cX12_coming 115 = .ok (.aload_n 0, 1) := by decide +kernel
theorem dX12_coming_116 : decode cX12_coming 116 = .ok (.getfield 19, 3) := by decide +kernel
theorem dX12_coming_119 : decode cX12_coming 119 = .ok (.iload 7, 2) := by decide +kernel
theorem dX12_coming_121 : decode cX12_coming 121 = .ok (.iload_n 1, 1) := by decide +kernel
theorem dX12_coming_122 : decode cX12_coming 122 = .ok (.iastore, 1) := by decide +kernel
theorem dX12_coming_123 : decode cX12_coming 123 = .ok (.aload_n 0, 1) := by decide +kernel
theorem dX12_coming_124 : decode cX12_coming 124 = .ok (.getfield 22, 3) := by decide +kernel
theorem dX12_coming_127 : decode cX12_coming 127 = .ok (.iload 7, 2) := by decide +kernel
theorem dX12_coming_129 : decode cX12_coming 129 = .ok (.iload_n 2, 1) := by decide +kernel
theorem dX12_coming_130 : decode cX12_coming 130 = .ok (.iastore, 1) := by decide +kernel
theorem dX12_coming_131 : decode cX12_coming 131 = .ok (.aload_n 0, 1) := by decide +kernel
theorem dX12_coming_132 : decode cX12_coming 132 = .ok (.getfield 25, 3) := by decide +kernel
theorem dX12_coming_135 : decode cX12_coming 135 = .ok (.iload 7, 2) := by decide +kernel
theorem dX12_coming_137 : decode cX12_coming 137 = .ok (.iload_n 3, 1) := by decide +kernel
theorem dX12_coming_138 : decode cX12_coming 138 = .ok (.iastore, 1) := by decide +kernel
theorem dX12_coming_139 : decode cX12_coming 139 = .ok (.aload_n 0, 1) := by decide +kernel
theorem dX12_coming_140 : decode cX12_coming 140 = .ok (.getfield 28, 3) := by decide +kernel
theorem dX12_coming_143 : decode cX12_coming 143 = .ok (.iload 7, 2) := by decide +kernel
theorem dX12_coming_145 : decode cX12_coming 145 = .ok (.iload 4, 2) := by decide +kernel
theorem dX12_coming_147 : decode cX12_coming 147 = .ok (.iastore, 1) := by decide +kernel
theorem dX12_coming_148 : decode cX12_coming 148 = .ok (.aload_n 0, 1) := by decide +kernel
theorem dX12_coming_149 : decode cX12_coming 149 = .ok (.getfield 31, 3) := by decide +kernel
theorem dX12_coming_152 : decode cX12_coming 152 = .ok (.iload 7, 2) := by decide +kernel
theorem dX12_coming_154 : decode cX12_coming 154 = .ok (.iload 5, 2) := by decide +kernel
theorem dX12_coming_156 : decode cX12_coming 156 = .ok (.iastore, 1) := by decide +kernel
theorem dX12_coming_157 : decode cX12_coming 157 = .ok (.aload_n 0, 1) := by decide +kernel
theorem dX12_coming_158 : decode cX12_coming 158 = .ok (.getfield 34, 3) := by decide +kernel
theorem dX12_coming_161 : decode cX12_coming 161 = .ok (.iload 7, 2) := by decide +kernel
theorem dX12_coming_163 : decode cX12_coming 163 = .ok (.iload 6, 2) := by decide +kernel
theorem dX12_coming_165 : decode cX12_coming 165 = .ok (.iastore, 1) := by decide +kernel
theorem dX12_coming_166 : decode cX12_coming 166 = .ok (.aload_n 0, 1) := by decide +kernel
theorem dX12_coming_167 : decode cX12_coming 167 = .ok (.getfield 37, 3) := by decide +kernel
theorem dX12_coming_170 : decode cX12_coming 170 = .ok (.iload 7, 2) := by decide +kernel
theorem dX12_coming_172 : decode cX12_coming 172 = .ok (.ldc 126, 2) := by decide +kernel
theorem dX12_coming_174 : decode cX12_coming 174 = .ok (.iastore, 1) := by decide +kernel
theorem dX12_coming_175 : decode cX12_coming 175 = .ok (.aload_n 0, 1) := by decide +kernel
theorem dX12_coming_176 : decode cX12_coming 176 = .ok (.getfield 127, 3) := by decide +kernel
theorem dX12_coming_179 : decode cX12_coming 179 = .ok (.istore 8, 2) := by decide +kernel
theorem dX12_coming_181 : decode cX12_coming 181 = .ok (.iload 8, 2) := by decide +kernel
theorem dX12_coming_183 : decode cX12_coming 183 = .ok (.ifCond .le 43, 3) := by decide +kernel
theorem dX12_coming_186 : decode cX12_coming 186 = .ok (.aload_n 0, 1) := by decide +kernel
theorem dX12_coming_187 : decode cX12_coming 187 = .ok (.iload 7, 2) := by decide +kernel
theorem dX12_coming_189 : decode cX12_coming 189 = .ok (.aload_n 0, 1) := by decide +kernel
theorem dX12_coming_190 : decode cX12_coming 190 = .ok (.getfield 40, 3) := by decide +kernel
theorem dX12_coming_193 : decode cX12_coming 193 = .ok (.iload 8, 2) := by decide +kernel
theorem dX12_coming_195 : decode cX12_coming 195 = .ok (.iconst 1, 1) := by decide +kernel
theorem dX12_coming_196 : decode cX12_coming 196 = .ok (.isub, 1) := by decide +kernel
theorem dX12_coming_197 : decode cX12_coming 197 = .ok (.iaload, 1) := by decide +kernel
theorem dX12_coming_198 : decode cX12_coming 198 = .ok (.invokevirtual 143, 3) := by decide +kernel
theorem dX12_coming_201 : decode cX12_coming 201 = .ok (.ifCond .eq 25, 3) := by decide +kernel
theorem dX12_coming_204 : decode cX12_coming 204 = .ok (.aload_n 0, 1) := by decide +kernel
theorem dX12_coming_205 : decode cX12_coming 205 = .ok (.getfield 40, 3) := by decide +kernel
theorem dX12_coming_208 : decode cX12_coming 208 = .ok (.iload 8, 2) := by decide +kernel
theorem dX12_coming_210 : decode cX12_coming 210 = .ok (.aload_n 0, 1) := by decide +kernel
theorem dX12_coming_211 : decode cX12_coming 211 = .ok (.getfield 40, 3) := by decide +kernel
theorem dX12_coming_214 : decode cX12_coming 214 = .ok (.iload 8, 2) := by decide +kernel
theorem dX12_coming_216 : decode cX12_coming 216 = .ok (.iconst 1, 1) := by decide +kernel
theorem dX12_coming_217 : decode cX12_coming 217 = .ok (.isub, 1) := by decide +kernel
theorem dX12_coming_218 : decode cX12_coming 218 = .ok (.iaload, 1) := by decide +kernel
theorem dX12_coming_219 : decode cX12_coming 219 = .ok (.iastore, 1) := by decide +kernel
theorem dX12_coming_220 : decode cX12_coming 220 = .ok (.iinc 8 (-1), 3) := by decide +kernel
theorem dX12_coming_223 : decode cX12_coming 223 = .ok (.goto (-42), 3) := by decide +kernel
theorem dX12_coming_226 : decode cX12_coming 226 = .ok (.aload_n 0, 1) := by decide +kernel
theorem dX12_coming_227 : decode cX12_coming 227 = .ok (.getfield 40, 3) := by decide +kernel
theorem dX12_coming_230 : decode cX12_coming 230 = .ok (.iload 8, 2) := by decide +kernel
theorem dX12_coming_232 : decode cX12_coming 232 = .ok (.iload 7, 2) := by decide +kernel
theorem dX12_coming_234 : decode cX12_coming 234 = .ok (.iastore, 1) := by decide +kernel
theorem dX12_coming_235 : decode cX12_coming 235 = .ok (.aload_n 0, 1) := by decide +kernel
theorem dX12_coming_236 : decode cX12_coming 236 = .ok (.dup, 1) := by decide +kernel
theorem dX12_coming_237 : decode cX12_coming 237 = .ok (.getfield 127, 3) := by decide +kernel
theorem dX12_coming_240 : decode cX12_coming 240 = .ok (.iconst 1, 1) := by decide +kernel
theorem dX12_coming_241 : decode cX12_coming 241 = .ok (.iadd, 1) := by decide +kernel
theorem dX12_coming_242 : decode cX12_coming 242 = .ok (.putfield 127, 3) := by decide +kernel
theorem dX12_coming_245 : decode cX12_coming 245 = .ok (.iload 7, 2) := by decide +kernel
theorem dX12_coming_247 : decode cX12_coming 247 = .ok (.ireturn, 1) := by decide +kernel
theorem kd_X12_coming : aKd m_X12_coming 6 := ⟨wd_15_6, wd_1_5, ⟨by decide +kernel, by decide +kernel, by decide +kernel⟩⟩
set_option maxRecDepth 100000 in
set_option maxHeartbeats 4000000 in
theorem l_X12_coming_81   (σ : aSt) (o : Int32 × aSt) (h : f_X12_coming_81   σ = some o) : AW true m_X12_coming 81 [] [] σ 0 0 (some (.int o.1)) o.2 := by
  unfold f_X12_coming_81 at h
  refine w_ldc (v := (-1000001)) dX12_coming_81 wd_10_21 ?_
  obtain rfl := Option.some.inj h
  exact w_ireturn dX12_coming_83 rfl (Nat.le_of_ble_eq_true rfl) (Nat.le_of_ble_eq_true rfl)
set_option maxRecDepth 100000 in
set_option maxHeartbeats 4000000 in
theorem l_X12_coming_226  (x7 : Int32) (x8 : Int32) (σ : aSt) (o : Int32 × aSt) (h : f_X12_coming_226  x7 x8 σ = some o) : AW true m_X12_coming 226 [(0, va_rf (some (57))), (7, Value.int (x7)), (8, Value.int (x8))] [] σ 0 0 (some (.int o.1)) o.2 := by
  unfold f_X12_coming_226 at h
  refine w_aload_n 0 ((some (57))) dX12_coming_226 rfl rfl ?_
  refine w_get (v := va_rf (some 68)) dX12_coming_227 fl_RX12_40 ⟨rfl, Or.inr ⟨rfl, by decide⟩⟩ (aFv_k rfl) ?_
  refine w_iload 2 dX12_coming_230 rfl ?_
  refine w_iload 1 dX12_coming_232 rfl ?_
  replace h := e_grd h; obtain ⟨b27, h⟩ := h
  refine w_iastore dX12_coming_234 ⟨rfl, Or.inr ⟨rfl, by decide⟩⟩ b27 ?_
  refine w_aload_n 0 ((some (57))) dX12_coming_235 rfl rfl ?_
  refine w_dup dX12_coming_236 (aRf_cat _) ?_
  refine w_get dX12_coming_237 fl_RX12_127 ⟨rfl, Or.inr ⟨rfl, by decide⟩⟩ (aFv_i rfl) ?_
  refine w_iconst (v := 1) dX12_coming_240 (by decide) ?_
  refine w_iadd dX12_coming_241 ?_
  refine w_putI dX12_coming_242 fl_RX12_127 (Or.inl rfl) rfl ⟨rfl, Or.inr ⟨rfl, by decide⟩⟩ ?_
  refine w_iload 1 dX12_coming_245 rfl ?_
  obtain rfl := Option.some.inj h
  exact w_ireturn dX12_coming_247 rfl (Nat.le_of_ble_eq_true rfl) (Nat.le_of_ble_eq_true rfl)
set_option maxRecDepth 100000 in
set_option maxHeartbeats 4000000 in
theorem l_X12_coming_181_b (rec181 : Int32 → Int32 → aSt → Option (Int32 × aSt)) (hrec181 : ∀ (x7 : Int32) (x8 : Int32) (σ : aSt) (o : Int32 × aSt), rec181 x7 x8 σ = some o → AW true m_X12_coming 181 [(0, va_rf (some (57))), (7, Value.int (x7)), (8, Value.int (x8))] [] σ 0 0 (some (.int o.1)) o.2) (x7 : Int32) (x8 : Int32) (σ : aSt) (o : Int32 × aSt) (h : f_X12_coming_181_b rec181 x7 x8 σ = some o) : AW true m_X12_coming 181 [(0, va_rf (some (57))), (7, Value.int (x7)), (8, Value.int (x8))] [] σ 0 0 (some (.int o.1)) o.2 := by
  unfold f_X12_coming_181_b at h
  refine w_iload 2 dX12_coming_181 rfl ?_
  refine w_if_le 226 dX12_coming_183 (by decide) (fun c28 => ?_) (fun c28 => ?_)
  · replace h := e_t c28 h
    exact l_X12_coming_226 _ _ _ _ h
  · replace h := e_f c28 h
    refine w_aload_n 0 ((some (57))) dX12_coming_186 rfl rfl ?_
    refine w_iload 1 dX12_coming_187 rfl ?_
    refine w_aload_n 0 ((some (57))) dX12_coming_189 rfl rfl ?_
    refine w_get (v := va_rf (some 68)) dX12_coming_190 fl_RX12_40 ⟨rfl, Or.inr ⟨rfl, by decide⟩⟩ (aFv_k rfl) ?_
    refine w_iload 2 dX12_coming_193 rfl ?_
    refine w_iconst (v := 1) dX12_coming_195 (by decide) ?_
    refine w_isub dX12_coming_196 ?_
    replace h := e_grd h; obtain ⟨b29, h⟩ := h
    refine w_iaload dX12_coming_197 ⟨rfl, Or.inr ⟨rfl, by decide⟩⟩ b29 ?_
    replace h := e_bind h; obtain ⟨q30, e31, h⟩ := h
    refine w_callV1 (M2 := m_X12_isBefore) (av := [.int (x7), .int (gI σ 68 (x8 - 1).toNatClampNeg)]) (ci := 12) (c_X12_isBefore _ _ _ _ e31) dX12_coming_198 kd_X12_isBefore wd_15_19 wd_15_20 wd_15_21 rfl rfl ⟨rfl, Or.inr ⟨rfl, by decide⟩⟩ rfl ⟨Nat.le_of_ble_eq_true rfl, Nat.le_of_ble_eq_true rfl, Nat.le_of_ble_eq_true rfl, Nat.le_of_ble_eq_true rfl⟩ (Nat.le_of_ble_eq_true rfl) ?_
    refine w_if_eq 226 dX12_coming_201 (by decide) (fun c32 => ?_) (fun c32 => ?_)
    · replace h := e_t c32 h
      exact l_X12_coming_226 _ _ _ _ h
    · replace h := e_f c32 h
      refine w_aload_n 0 ((some (57))) dX12_coming_204 rfl rfl ?_
      refine w_get (v := va_rf (some 68)) dX12_coming_205 fl_RX12_40 ⟨rfl, Or.inr ⟨rfl, by decide⟩⟩ (aFv_k rfl) ?_
      refine w_iload 2 dX12_coming_208 rfl ?_
      refine w_aload_n 0 ((some (57))) dX12_coming_210 rfl rfl ?_
      refine w_get (v := va_rf (some 68)) dX12_coming_211 fl_RX12_40 ⟨rfl, Or.inr ⟨rfl, by decide⟩⟩ (aFv_k rfl) ?_
      refine w_iload 2 dX12_coming_214 rfl ?_
      refine w_iconst (v := 1) dX12_coming_216 (by decide) ?_
      refine w_isub dX12_coming_217 ?_
      replace h := e_grd h; obtain ⟨b33, h⟩ := h
      refine w_iaload dX12_coming_218 ⟨rfl, Or.inr ⟨rfl, by decide⟩⟩ b33 ?_
      replace h := e_grd h; obtain ⟨b34, h⟩ := h
      refine w_iastore dX12_coming_219 ⟨rfl, Or.inr ⟨rfl, by decide⟩⟩ b34 ?_
      refine w_iinc (q := 2) (v := x8 + (-1)) dX12_coming_220 rfl rfl (by decide) rfl ?_
      refine w_goto 181 dX12_coming_223 (by decide) ?_
      refine w_sub [1, 2, 0] rfl ?_
      exact hrec181 _ _ _ _ h
theorem l_X12_coming_181  : ∀ (n : Nat) (x7 : Int32) (x8 : Int32) (σ : aSt) (o : Int32 × aSt), f_X12_coming_181  n x7 x8 σ = some o → AW true m_X12_coming 181 [(0, va_rf (some (57))), (7, Value.int (x7)), (8, Value.int (x8))] [] σ 0 0 (some (.int o.1)) o.2
  | 0 => fun x7 x8 σ o h => by cases h
  | n + 1 => fun x7 x8 σ o h => l_X12_coming_181_b (f_X12_coming_181  n) (l_X12_coming_181  n) x7 x8 σ o h
set_option maxRecDepth 100000 in
set_option maxHeartbeats 4000000 in
theorem l_X12_coming_166  (x7 : Int32) (σ : aSt) (o : Int32 × aSt) (h : f_X12_coming_166  x7 σ = some o) : AW true m_X12_coming 166 [(0, va_rf (some (57))), (7, Value.int (x7))] [] σ 0 0 (some (.int o.1)) o.2 := by
  unfold f_X12_coming_166 at h
  refine w_aload_n 0 ((some (57))) dX12_coming_166 rfl rfl ?_
  refine w_get (v := va_rf (some 67)) dX12_coming_167 fl_RX12_37 ⟨rfl, Or.inr ⟨rfl, by decide⟩⟩ (aFv_k rfl) ?_
  refine w_iload 1 dX12_coming_170 rfl ?_
  refine w_ldc (v := (-1000000)) dX12_coming_172 wd_15_11 ?_
  replace h := e_grd h; obtain ⟨b35, h⟩ := h
  refine w_iastore dX12_coming_174 ⟨rfl, Or.inr ⟨rfl, by decide⟩⟩ b35 ?_
  refine w_aload_n 0 ((some (57))) dX12_coming_175 rfl rfl ?_
  refine w_get dX12_coming_176 fl_RX12_127 ⟨rfl, Or.inr ⟨rfl, by decide⟩⟩ (aFv_i rfl) ?_
  refine w_istore dX12_coming_179 (by decide) rfl ?_
  refine w_sub [1, 2, 0] rfl ?_
  exact l_X12_coming_181 aN _ _ _ _ h
set_option maxRecDepth 100000 in
set_option maxHeartbeats 4000000 in
theorem l_X12_coming_139  (x4 : Int32) (x5 : Int32) (x6 : Int32) (x7 : Int32) (σ : aSt) (o : Int32 × aSt) (h : f_X12_coming_139  x4 x5 x6 x7 σ = some o) : AW true m_X12_coming 139 [(0, va_rf (some (57))), (4, Value.int (x4)), (5, Value.int (x5)), (6, Value.int (x6)), (7, Value.int (x7))] [] σ 0 0 (some (.int o.1)) o.2 := by
  unfold f_X12_coming_139 at h
  refine w_aload_n 0 ((some (57))) dX12_coming_139 rfl rfl ?_
  refine w_get (v := va_rf (some 64)) dX12_coming_140 fl_RX12_28 ⟨rfl, Or.inr ⟨rfl, by decide⟩⟩ (aFv_k rfl) ?_
  refine w_iload 4 dX12_coming_143 rfl ?_
  refine w_iload 1 dX12_coming_145 rfl ?_
  replace h := e_grd h; obtain ⟨b36, h⟩ := h
  refine w_iastore dX12_coming_147 ⟨rfl, Or.inr ⟨rfl, by decide⟩⟩ b36 ?_
  refine w_aload_n 0 ((some (57))) dX12_coming_148 rfl rfl ?_
  refine w_get (v := va_rf (some 65)) dX12_coming_149 fl_RX12_31 ⟨rfl, Or.inr ⟨rfl, by decide⟩⟩ (aFv_k rfl) ?_
  refine w_iload 4 dX12_coming_152 rfl ?_
  refine w_iload 2 dX12_coming_154 rfl ?_
  replace h := e_grd h; obtain ⟨b37, h⟩ := h
  refine w_iastore dX12_coming_156 ⟨rfl, Or.inr ⟨rfl, by decide⟩⟩ b37 ?_
  refine w_aload_n 0 ((some (57))) dX12_coming_157 rfl rfl ?_
  refine w_get (v := va_rf (some 66)) dX12_coming_158 fl_RX12_34 ⟨rfl, Or.inr ⟨rfl, by decide⟩⟩ (aFv_k rfl) ?_
  refine w_iload 4 dX12_coming_161 rfl ?_
  refine w_iload 3 dX12_coming_163 rfl ?_
  replace h := e_grd h; obtain ⟨b38, h⟩ := h
  refine w_iastore dX12_coming_165 ⟨rfl, Or.inr ⟨rfl, by decide⟩⟩ b38 ?_
  refine w_sub [0, 4] rfl ?_
  exact l_X12_coming_166 _ _ _ h
set_option maxRecDepth 100000 in
set_option maxHeartbeats 4000000 in
theorem c_X12_coming (p1 : Int32) (p2 : Int32) (p3 : Int32) (p4 : Int32) (p5 : Int32) (p6 : Int32) (σ : aSt) (o : Int32 × aSt) (h : f_X12_coming p1 p2 p3 p4 p5 p6 σ = some o) : AM true m_X12_coming [va_rf (some (57)), .int (p1), .int (p2), .int (p3), .int (p4), .int (p5), .int (p6)] σ (some (.int o.1)) o.2 := by
  refine AM_of2 (lv := [(0, va_rf (some (57))), (1, Value.int (p1)), (2, Value.int (p2)), (3, Value.int (p3)), (4, Value.int (p4)), (5, Value.int (p5)), (6, Value.int (p6))]) (by decide +kernel) rfl (Nat.le_of_ble_eq_true rfl) ?_
  unfold f_X12_coming at h
  refine w_iload_n 1 dX12_coming_0 rfl rfl ?_
  refine w_i2l dX12_coming_1 ?_
  refine w_lconst (v := 0) dX12_coming_2 (by decide) ?_
  refine w_ldc2 (v := 999) dX12_coming_3 wd_15_7 ?_
  replace h := e_bind h; obtain ⟨q1, e2, h⟩ := h
  refine w_callS1 (M2 := m_X12_in) (av := [.long (p1.toInt64), .long (0), .long (999)]) (c_X12_in _ _ _ _ _ e2) dX12_coming_6 kd_X12_in wd_11_3 wd_11_4 rfl rfl ⟨Nat.le_of_ble_eq_true rfl, Nat.le_of_ble_eq_true rfl, Nat.le_of_ble_eq_true rfl, Nat.le_of_ble_eq_true rfl⟩ (Nat.le_of_ble_eq_true rfl) ?_
  refine w_if_eq 81 dX12_coming_9 (by decide) (fun c3 => ?_) (fun c3 => ?_)
  · replace h := e_t c3 h
    refine w_sub [] rfl ?_
    exact l_X12_coming_81 _ _ h
  · replace h := e_f c3 h
    refine w_iload_n 2 dX12_coming_12 rfl rfl ?_
    refine w_i2l dX12_coming_13 ?_
    refine w_lconst (v := 0) dX12_coming_14 (by decide) ?_
    refine w_ldc2 (v := 100000) dX12_coming_15 wd_15_8 ?_
    replace h := e_bind h; obtain ⟨q4, e5, h⟩ := h
    refine w_callS1 (M2 := m_X12_in) (av := [.long (p2.toInt64), .long (0), .long (100000)]) (c_X12_in _ _ _ _ _ e5) dX12_coming_18 kd_X12_in wd_11_3 wd_11_4 rfl rfl ⟨Nat.le_of_ble_eq_true rfl, Nat.le_of_ble_eq_true rfl, Nat.le_of_ble_eq_true rfl, Nat.le_of_ble_eq_true rfl⟩ (Nat.le_of_ble_eq_true rfl) ?_
    refine w_if_eq 81 dX12_coming_21 (by decide) (fun c6 => ?_) (fun c6 => ?_)
    · replace h := e_t c6 h
      refine w_sub [] rfl ?_
      exact l_X12_coming_81 _ _ h
    · replace h := e_f c6 h
      refine w_iload_n 3 dX12_coming_24 rfl rfl ?_
      refine w_i2l dX12_coming_25 ?_
      refine w_lconst (v := 0) dX12_coming_26 (by decide) ?_
      refine w_ldc2 (v := 19) dX12_coming_27 wd_15_9 ?_
      replace h := e_bind h; obtain ⟨q7, e8, h⟩ := h
      refine w_callS1 (M2 := m_X12_in) (av := [.long (p3.toInt64), .long (0), .long (19)]) (c_X12_in _ _ _ _ _ e8) dX12_coming_30 kd_X12_in wd_11_3 wd_11_4 rfl rfl ⟨Nat.le_of_ble_eq_true rfl, Nat.le_of_ble_eq_true rfl, Nat.le_of_ble_eq_true rfl, Nat.le_of_ble_eq_true rfl⟩ (Nat.le_of_ble_eq_true rfl) ?_
      refine w_if_eq 81 dX12_coming_33 (by decide) (fun c9 => ?_) (fun c9 => ?_)
      · replace h := e_t c9 h
        refine w_sub [] rfl ?_
        exact l_X12_coming_81 _ _ h
      · replace h := e_f c9 h
        refine w_iload 4 dX12_coming_36 rfl ?_
        refine w_i2l dX12_coming_38 ?_
        refine w_lconst (v := 0) dX12_coming_39 (by decide) ?_
        refine w_ldc2 (v := 19) dX12_coming_40 wd_15_9 ?_
        replace h := e_bind h; obtain ⟨q10, e11, h⟩ := h
        refine w_callS1 (M2 := m_X12_in) (av := [.long (p4.toInt64), .long (0), .long (19)]) (c_X12_in _ _ _ _ _ e11) dX12_coming_43 kd_X12_in wd_11_3 wd_11_4 rfl rfl ⟨Nat.le_of_ble_eq_true rfl, Nat.le_of_ble_eq_true rfl, Nat.le_of_ble_eq_true rfl, Nat.le_of_ble_eq_true rfl⟩ (Nat.le_of_ble_eq_true rfl) ?_
        refine w_if_eq 81 dX12_coming_46 (by decide) (fun c12 => ?_) (fun c12 => ?_)
        · replace h := e_t c12 h
          refine w_sub [] rfl ?_
          exact l_X12_coming_81 _ _ h
        · replace h := e_f c12 h
          refine w_iload_n 3 dX12_coming_49 rfl rfl ?_
          refine w_iload 4 dX12_coming_50 rfl ?_
          refine w_icmp_eq 81 dX12_coming_52 (by decide) (fun c13 => ?_) (fun c13 => ?_)
          · replace h := e_t c13 h
            refine w_sub [] rfl ?_
            exact l_X12_coming_81 _ _ h
          · replace h := e_f c13 h
            refine w_iload 5 dX12_coming_55 rfl ?_
            refine w_i2l dX12_coming_57 ?_
            refine w_lconst (v := 1) dX12_coming_58 (by decide) ?_
            refine w_ldc2 (v := 100000) dX12_coming_59 wd_15_8 ?_
            replace h := e_bind h; obtain ⟨q14, e15, h⟩ := h
            refine w_callS1 (M2 := m_X12_in) (av := [.long (p5.toInt64), .long (1), .long (100000)]) (c_X12_in _ _ _ _ _ e15) dX12_coming_62 kd_X12_in wd_11_3 wd_11_4 rfl rfl ⟨Nat.le_of_ble_eq_true rfl, Nat.le_of_ble_eq_true rfl, Nat.le_of_ble_eq_true rfl, Nat.le_of_ble_eq_true rfl⟩ (Nat.le_of_ble_eq_true rfl) ?_
            refine w_if_eq 81 dX12_coming_65 (by decide) (fun c16 => ?_) (fun c16 => ?_)
            · replace h := e_t c16 h
              refine w_sub [] rfl ?_
              exact l_X12_coming_81 _ _ h
            · replace h := e_f c16 h
              refine w_iload 6 dX12_coming_68 rfl ?_
              refine w_i2l dX12_coming_70 ?_
              refine w_lconst (v := 0) dX12_coming_71 (by decide) ?_
              refine w_ldc2 (v := 3) dX12_coming_72 wd_15_10 ?_
              replace h := e_bind h; obtain ⟨q17, e18, h⟩ := h
              refine w_callS1 (M2 := m_X12_in) (av := [.long (p6.toInt64), .long (0), .long (3)]) (c_X12_in _ _ _ _ _ e18) dX12_coming_75 kd_X12_in wd_11_3 wd_11_4 rfl rfl ⟨Nat.le_of_ble_eq_true rfl, Nat.le_of_ble_eq_true rfl, Nat.le_of_ble_eq_true rfl, Nat.le_of_ble_eq_true rfl⟩ (Nat.le_of_ble_eq_true rfl) ?_
              refine w_if_ne 84 dX12_coming_78 (by decide) (fun c19 => ?_) (fun c19 => ?_)
              · replace h := e_f c19 h
                refine w_aload_n 0 ((some (57))) dX12_coming_84 rfl rfl ?_
                refine w_iload_n 1 dX12_coming_85 rfl rfl ?_
                replace h := e_bind h; obtain ⟨q20, e21, h⟩ := h
                refine w_callV1 (M2 := m_X12_numberOf) (av := [.int (p1)]) (ci := 12) (c_X12_numberOf _ _ _ e21) dX12_coming_86 kd_X12_numberOf wd_15_15 wd_15_16 wd_15_17 rfl rfl ⟨rfl, Or.inr ⟨rfl, by decide⟩⟩ rfl ⟨Nat.le_of_ble_eq_true rfl, Nat.le_of_ble_eq_true rfl, Nat.le_of_ble_eq_true rfl, Nat.le_of_ble_eq_true rfl⟩ (Nat.le_of_ble_eq_true rfl) ?_
                refine w_ldc (v := (-1000000)) dX12_coming_89 wd_15_11 ?_
                refine w_icmp_eq 97 dX12_coming_91 (by decide) (fun c22 => ?_) (fun c22 => ?_)
                · replace h := e_t c22 h
                  refine w_aload_n 0 ((some (57))) dX12_coming_97 rfl rfl ?_
                  refine w_get dX12_coming_98 fl_RX12_127 ⟨rfl, Or.inr ⟨rfl, by decide⟩⟩ (aFv_i rfl) ?_
                  refine w_bipush (v := 120) dX12_coming_101 (by decide) ?_
                  refine w_icmp_ne 109 dX12_coming_103 (by decide) (fun c23 => ?_) (fun c23 => ?_)
                  · replace h := e_f c23 h
                    refine w_aload_n 0 ((some (57))) dX12_coming_109 rfl rfl ?_
                    refine w_get dX12_coming_110 fl_RX12_127 ⟨rfl, Or.inr ⟨rfl, by decide⟩⟩ (aFv_i rfl) ?_
                    refine w_istore dX12_coming_113 (by decide) rfl ?_
                    refine w_aload_n 1 ((some (57))) dX12_coming_115 rfl rfl ?_
                    refine w_get (v := va_rf (some 61)) dX12_coming_116 fl_RX12_19 ⟨rfl, Or.inr ⟨rfl, by decide⟩⟩ (aFv_k rfl) ?_
                    refine w_iload 0 dX12_coming_119 rfl ?_
                    refine w_iload_n 2 dX12_coming_121 rfl rfl ?_
                    replace h := e_grd h; obtain ⟨b24, h⟩ := h
                    refine w_iastore dX12_coming_122 ⟨rfl, Or.inr ⟨rfl, by decide⟩⟩ b24 ?_
                    refine w_aload_n 1 ((some (57))) dX12_coming_123 rfl rfl ?_
                    refine w_get (v := va_rf (some 62)) dX12_coming_124 fl_RX12_22 ⟨rfl, Or.inr ⟨rfl, by decide⟩⟩ (aFv_k rfl) ?_
                    refine w_iload 0 dX12_coming_127 rfl ?_
                    refine w_iload_n 3 dX12_coming_129 rfl rfl ?_
                    replace h := e_grd h; obtain ⟨b25, h⟩ := h
                    refine w_iastore dX12_coming_130 ⟨rfl, Or.inr ⟨rfl, by decide⟩⟩ b25 ?_
                    refine w_aload_n 1 ((some (57))) dX12_coming_131 rfl rfl ?_
                    refine w_get (v := va_rf (some 63)) dX12_coming_132 fl_RX12_25 ⟨rfl, Or.inr ⟨rfl, by decide⟩⟩ (aFv_k rfl) ?_
                    refine w_iload 0 dX12_coming_135 rfl ?_
                    refine w_iload_n 4 dX12_coming_137 rfl rfl ?_
                    replace h := e_grd h; obtain ⟨b26, h⟩ := h
                    refine w_iastore dX12_coming_138 ⟨rfl, Or.inr ⟨rfl, by decide⟩⟩ b26 ?_
                    refine w_sub [1, 5, 6, 7, 0] rfl ?_
                    exact l_X12_coming_139 _ _ _ _ _ _ h
                  · replace h := e_t c23 h
                    refine w_ldc (v := (-1000003)) dX12_coming_106 wd_15_14 ?_
                    obtain rfl := Option.some.inj h
                    exact w_ireturn dX12_coming_108 rfl (Nat.le_of_ble_eq_true rfl) (Nat.le_of_ble_eq_true rfl)
                · replace h := e_f c22 h
                  refine w_ldc (v := (-1000002)) dX12_coming_94 wd_15_12 ?_
                  obtain rfl := Option.some.inj h
                  exact w_ireturn dX12_coming_96 rfl (Nat.le_of_ble_eq_true rfl) (Nat.le_of_ble_eq_true rfl)
              · replace h := e_t c19 h
                refine w_sub [] rfl ?_
                exact l_X12_coming_81 _ _ h
