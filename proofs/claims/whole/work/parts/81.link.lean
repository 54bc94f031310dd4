theorem dX3_isMarked_0 : decode cX3_isMarked 0 = .ok (.aload_n 0, 1) := by decide +kernel
theorem dX3_isMarked_1 : decode cX3_isMarked 1 = .ok (.getfield 24, 3) := by decide +kernel
theorem dX3_isMarked_4 : decode cX3_isMarked 4 = .ok (.iload_n 1, 1) := by decide +kernel
theorem dX3_isMarked_5 : decode cX3_isMarked 5 = .ok (.ishr, 1) := by decide +kernel
theorem dX3_isMarked_6 : decode cX3_isMarked 6 = .ok (.iconst 1, 1) := by decide +kernel
theorem dX3_isMarked_7 : decode cX3_isMarked 7 = .ok (.iand, 1) := by decide +kernel
theorem dX3_isMarked_8 : decode cX3_isMarked 8 = .ok (.iconst 1, 1) := by decide +kernel
theorem dX3_isMarked_9 : decode cX3_isMarked 9 = .ok (.if_icmp .ne 7, 3) := by decide +kernel
theorem dX3_isMarked_12 : decode cX3_isMarked 12 = .ok (.iconst 1, 1) := by decide +kernel
theorem dX3_isMarked_13 : decode cX3_isMarked 13 = .ok (.goto 4, 3) := by decide +kernel
theorem dX3_isMarked_16 : decode cX3_isMarked 16 = .ok (.iconst 0, 1) := by decide +kernel
theorem dX3_isMarked_17 : decode cX3_isMarked 17 = .ok (.ireturn, 1) := by decide +kernel
theorem kd_X3_isMarked : aKd m_X3_isMarked 1 := ⟨wd_18_0, wd_1_17, ⟨by decide +kernel, by decide +kernel, by decide +kernel⟩⟩
set_option maxRecDepth 100000 in
set_option maxHeartbeats 4000000 in
theorem l_X3_isMarked_17  (t0 : Int32) (σ : aSt) (o : Int32 × aSt) (h : f_X3_isMarked_17  t0 σ = some o) : AW true m_X3_isMarked 17 [] [.int (t0)] σ 0 0 (some (.int o.1)) o.2 := by
  unfold f_X3_isMarked_17 at h
  replace h := e_grd h; obtain ⟨g2, h⟩ := h
  obtain rfl := Option.some.inj h
  exact w_zreturn dX3_isMarked_17 rfl (e_nz g2) (Nat.le_of_ble_eq_true rfl) (Nat.le_of_ble_eq_true rfl)
set_option maxRecDepth 100000 in
set_option maxHeartbeats 4000000 in
theorem c_X3_isMarked (p1 : Int32) (σ : aSt) (o : Int32 × aSt) (h : f_X3_isMarked p1 σ = some o) : AM true m_X3_isMarked [va_rf (some (2)), .int (p1)] σ (some (.int o.1)) o.2 := by
  refine AM_of2 (lv := [(0, va_rf (some (2))), (1, Value.int (p1))]) (by decide +kernel) rfl (Nat.le_of_ble_eq_true rfl) ?_
  unfold f_X3_isMarked at h
  refine w_aload_n 0 ((some (2))) dX3_isMarked_0 rfl rfl ?_
  refine w_get dX3_isMarked_1 fl_RX3_24 ⟨rfl, Or.inr ⟨rfl, by decide⟩⟩ (aFv_i rfl) ?_
  refine w_iload_n 1 dX3_isMarked_4 rfl rfl ?_
  refine w_ishr dX3_isMarked_5 ?_
  refine w_iconst (v := 1) dX3_isMarked_6 (by decide) ?_
  refine w_iand dX3_isMarked_7 ?_
  refine w_iconst (v := 1) dX3_isMarked_8 (by decide) ?_
  refine w_icmp_ne 16 dX3_isMarked_9 (by decide) (fun c1 => ?_) (fun c1 => ?_)
  · replace h := e_f c1 h
    refine w_iconst (v := 0) dX3_isMarked_16 (by decide) ?_
    refine w_sub [] rfl ?_
    exact l_X3_isMarked_17 _ _ _ h
  · replace h := e_t c1 h
    refine w_iconst (v := 1) dX3_isMarked_12 (by decide) ?_
    refine w_goto 17 dX3_isMarked_13 (by decide) ?_
    refine w_sub [] rfl ?_
    exact l_X3_isMarked_17 _ _ _ h
theorem dX3_turnMark_0 : decode cX3_turnMark 0 = .ok (.aload_n 0, 1) := by decide +kernel
theorem dX3_turnMark_1 : decode cX3_turnMark 1 = .ok (.dup, 1) := by decide +kernel
theorem dX3_turnMark_2 : decode cX3_turnMark 2 = .ok (.getfield 24, 3) := by decide +kernel
theorem dX3_turnMark_5 : decode cX3_turnMark 5 = .ok (.iconst 1, 1) := by decide +kernel
theorem dX3_turnMark_6 : decode cX3_turnMark 6 = .ok (.iload_n 1, 1) := by decide +kernel
theorem dX3_turnMark_7 : decode cX3_turnMark 7 = .ok (.ishl, 1) := by decide +kernel
theorem dX3_turnMark_8 : decode cX3_turnMark 8 = .ok (.ixor, 1) := by decide +kernel
theorem dX3_turnMark_9 : decode cX3_turnMark 9 = .ok (.putfield 24, 3) := by decide +kernel
theorem dX3_turnMark_12 : decode cX3_turnMark 12 = .ok (.return_, 1) := by decide +kernel
theorem kd_X3_turnMark : aKd m_X3_turnMark 1 := ⟨wd_18_4, wd_1_17, ⟨by decide +kernel, by decide +kernel, by decide +kernel⟩⟩
set_option maxRecDepth 100000 in
set_option maxHeartbeats 4000000 in
theorem c_X3_turnMark (p1 : Int32) (σ : aSt) (o : Unit × aSt) (h : f_X3_turnMark p1 σ = some o) : AM true m_X3_turnMark [va_rf (some (2)), .int (p1)] σ none o.2 := by
  refine AM_of2 (lv := [(0, va_rf (some (2))), (1, Value.int (p1))]) (by decide +kernel) rfl (Nat.le_of_ble_eq_true rfl) ?_
  unfold f_X3_turnMark at h
  refine w_aload_n 0 ((some (2))) dX3_turnMark_0 rfl rfl ?_
  refine w_dup dX3_turnMark_1 (aRf_cat _) ?_
  refine w_get dX3_turnMark_2 fl_RX3_24 ⟨rfl, Or.inr ⟨rfl, by decide⟩⟩ (aFv_i rfl) ?_
  refine w_iconst (v := 1) dX3_turnMark_5 (by decide) ?_
  refine w_iload_n 1 dX3_turnMark_6 rfl rfl ?_
  refine w_ishl dX3_turnMark_7 ?_
  refine w_ixor dX3_turnMark_8 ?_
  refine w_putI dX3_turnMark_9 fl_RX3_24 (Or.inl rfl) rfl ⟨rfl, Or.inr ⟨rfl, by decide⟩⟩ ?_
  obtain rfl := Option.some.inj h
  exact w_vreturn dX3_turnMark_12 rfl (Nat.le_of_ble_eq_true rfl) (Nat.le_of_ble_eq_true rfl)
theorem dX11_mark_0 : decode cX11_mark 0 = .ok (.iload_n 1, 1) := by decide +kernel
theorem dX11_mark_1 : decode cX11_mark 1 = .ok (.iconst 0, 1) := by decide +kernel
theorem dX11_mark_2 : decode cX11_mark 2 = .ok (.bipush 19, 2) := by decide +kernel
theorem dX11_mark_4 : decode cX11_mark 4 = .ok (.invokestatic 89, 3) := by decide +kernel
theorem dX11_mark_7 : decode cX11_mark 7 = .ok (.ifCond .eq 12, 3) := by decide +kernel
theorem dX11_mark_10 : decode cX11_mark 10 = .ok (.iload_n 2, 1) := by decide +kernel
theorem dX11_mark_11 : decode cX11_mark 11 = .ok (.iconst 0, 1) := by decide +kernel
theorem dX11_mark_12 : decode cX11_mark 12 = .ok (.iconst 1, 1) := by decide +kernel
theorem dX11_mark_13 : decode cX11_mark 13 = .ok (.invokestatic 89, 3) := by decide +kernel
theorem dX11_mark_16 : decode cX11_mark 16 = .ok (.ifCond .ne 6, 3) := by decide +kernel
theorem dX11_mark_19 : decode cX11_mark 19 = .ok (.ldc 93, 2) := by decide +kernel
theorem dX11_mark_21 : decode cX11_mark 21 = .ok (.ireturn, 1) := by decide +kernel
theorem dX11_mark_22 : decode cX11_mark 22 = .ok (.aload_n 0, 1) := by decide +kernel
theorem dX11_mark_23 : decode cX11_mark 23 = .ok (.getfield 18, 3) := by decide +kernel
theorem dX11_mark_26 : decode cX11_mark 26 = .ok (.iload_n 1, 1) := by decide +kernel
theorem dX11_mark_27 : decode cX11_mark 27 = .ok (.invokevirtual 175, 3) := by decide +kernel
theorem dX11_mark_30 : decode cX11_mark 30 = .ok (.iload_n 2, 1) := by decide +kernel
theorem dX11_mark_31 : decode cX11_mark 31 = .ok (.iconst 1, 1) := by decide +kernel
theorem dX11_mark_32 : decode cX11_mark 32 = .ok (.if_icmp .ne 7, 3) := by decide +kernel
theorem dX11_mark_35 : decode cX11_mark 35 = .ok (.iconst 1, 1) := by decide +kernel
theorem dX11_mark_36 : decode cX11_mark 36 = .ok (.goto 4, 3) := by decide +kernel
theorem dX11_mark_39 : decode cX11_mark 39 = .ok (.iconst 0, 1) := by decide +kernel
theorem dX11_mark_40 : decode cX11_mark 40 = .ok (.if_icmp .ne 5, 3) := by decide +kernel
theorem dX11_mark_43 : decode cX11_mark 43 = .ok (.iconst 0, 1) := by decide +kernel
theorem dX11_mark_44 : decode cX11_mark 44 = .ok (.ireturn, 1) := by decide +kernel
theorem dX11_mark_45 : decode cX11_mark 45 = .ok (.aload_n 0, 1) := by decide +kernel
theorem dX11_mark_46 : decode cX11_mark 46 = .ok (.getfield 18, 3) := by decide +kernel
theorem dX11_mark_49 : decode cX11_mark 49 = .ok (.iload_n 1, 1) := by decide +kernel
theorem dX11_mark_50 : decode cX11_mark 50 = .ok (.invokevirtual 178, 3) := by decide +kernel
theorem dX11_mark_53 : decode cX11_mark 53 = .ok (.aload_n 0, 1) := by decide +kernel
theorem dX11_mark_54 : decode cX11_mark 54 = .ok (.getfield 43, 3) := by decide +kernel
theorem dX11_mark_57 : decode cX11_mark 57 = .ok (.invokevirtual 182, 3) := by decide +kernel
theorem dX11_mark_60 : decode cX11_mark 60 = .ok (.iconst 1, 1) := by decide +kernel
theorem dX11_mark_61 : decode cX11_mark 61 = .ok (.ireturn, 1) := by decide +kernel
theorem kd_X11_mark : aKd m_X11_mark 2 := ⟨wd_17_20, wd_1_2, ⟨by decide +kernel, by decide +kernel, by decide +kernel⟩⟩
set_option maxRecDepth 100000 in
set_option maxHeartbeats 4000000 in
theorem l_X11_mark_19   (σ : aSt) (o : Int32 × aSt) (h : f_X11_mark_19   σ = some o) : AW true m_X11_mark 19 [] [] σ 0 0 (some (.int o.1)) o.2 := by
  unfold f_X11_mark_19 at h
  refine w_ldc (v := (-1000001)) dX11_mark_19 wd_9_18 ?_
  obtain rfl := Option.some.inj h
  exact w_ireturn dX11_mark_21 rfl (Nat.le_of_ble_eq_true rfl) (Nat.le_of_ble_eq_true rfl)
set_option maxRecDepth 100000 in
set_option maxHeartbeats 4000000 in
theorem l_X11_mark_40  (x1 : Int32) (t0 : Int32) (t1 : Int32) (σ : aSt) (o : Int32 × aSt) (h : f_X11_mark_40  x1 t0 t1 σ = some o) : AW true m_X11_mark 40 [(0, va_rf (some (0))), (1, Value.int (x1))] [.int (t1), .int (t0)] σ 0 0 (some (.int o.1)) o.2 := by
  unfold f_X11_mark_40 at h
  refine w_icmp_ne 45 dX11_mark_40 (by decide) (fun c10 => ?_) (fun c10 => ?_)
  · replace h := e_f c10 h
    refine w_aload_n 0 ((some (0))) dX11_mark_45 rfl rfl ?_
    refine w_get (v := va_rf (some 2)) dX11_mark_46 fl_RX11_18 ⟨rfl, Or.inr ⟨rfl, by decide⟩⟩ (aFv_k rfl) ?_
    refine w_iload_n 1 dX11_mark_49 rfl rfl ?_
    replace h := e_bind h; obtain ⟨q11, e12, h⟩ := h
    refine w_callV0 (M2 := m_X3_turnMark) (av := [.int (x1)]) (ci := 3) (c_X3_turnMark _ _ _ e12) dX11_mark_50 kd_X3_turnMark wd_18_1 wd_18_2 wd_18_3 rfl rfl ⟨rfl, Or.inr ⟨rfl, by decide⟩⟩ rfl ⟨Nat.le_of_ble_eq_true rfl, Nat.le_of_ble_eq_true rfl, Nat.le_of_ble_eq_true rfl, Nat.le_of_ble_eq_true rfl⟩ (Nat.le_of_ble_eq_true rfl) ?_
    refine w_aload_n 0 ((some (0))) dX11_mark_53 rfl rfl ?_
    refine w_get (v := va_rf (some 11)) dX11_mark_54 fl_RX11_43 ⟨rfl, Or.inr ⟨rfl, by decide⟩⟩ (aFv_k rfl) ?_
    replace h := e_bind h; obtain ⟨q13, e14, h⟩ := h
    refine w_callV0 (M2 := m_X2_forget) (av := []) (ci := 2) (c_X2_forget  _ _ e14) dX11_mark_57 kd_X2_forget wd_14_22 wd_6_5 wd_6_6 rfl rfl ⟨rfl, Or.inr ⟨rfl, by decide⟩⟩ rfl ⟨Nat.le_of_ble_eq_true rfl, Nat.le_of_ble_eq_true rfl, Nat.le_of_ble_eq_true rfl, Nat.le_of_ble_eq_true rfl⟩ (Nat.le_of_ble_eq_true rfl) ?_
    refine w_iconst (v := 1) dX11_mark_60 (by decide) ?_
    obtain rfl := Option.some.inj h
    exact w_ireturn dX11_mark_61 rfl (Nat.le_of_ble_eq_true rfl) (Nat.le_of_ble_eq_true rfl)
  · replace h := e_t c10 h
    refine w_iconst (v := 0) dX11_mark_43 (by decide) ?_
    obtain rfl := Option.some.inj h
    exact w_ireturn dX11_mark_44 rfl (Nat.le_of_ble_eq_true rfl) (Nat.le_of_ble_eq_true rfl)
set_option maxRecDepth 100000 in
set_option maxHeartbeats 4000000 in
theorem c_X11_mark (p1 : Int32) (p2 : Int32) (σ : aSt) (o : Int32 × aSt) (h : f_X11_mark p1 p2 σ = some o) : AM true m_X11_mark [va_rf (some (0)), .int (p1), .int (p2)] σ (some (.int o.1)) o.2 := by
  refine AM_of2 (lv := [(0, va_rf (some (0))), (1, Value.int (p1)), (2, Value.int (p2))]) (by decide +kernel) rfl (Nat.le_of_ble_eq_true rfl) ?_
  unfold f_X11_mark at h
  refine w_iload_n 1 dX11_mark_0 rfl rfl ?_
  refine w_iconst (v := 0) dX11_mark_1 (by decide) ?_
  refine w_bipush (v := 19) dX11_mark_2 (by decide) ?_
  replace h := e_bind h; obtain ⟨q1, e2, h⟩ := h
  refine w_callS1 (M2 := m_X11_within) (av := [.int (p1), .int (0), .int (19)]) (c_X11_within _ _ _ _ _ e2) dX11_mark_4 kd_X11_within wd_9_22 wd_9_23 rfl rfl ⟨Nat.le_of_ble_eq_true rfl, Nat.le_of_ble_eq_true rfl, Nat.le_of_ble_eq_true rfl, Nat.le_of_ble_eq_true rfl⟩ (Nat.le_of_ble_eq_true rfl) ?_
  refine w_if_eq 19 dX11_mark_7 (by decide) (fun c3 => ?_) (fun c3 => ?_)
  · replace h := e_t c3 h
    refine w_sub [] rfl ?_
    exact l_X11_mark_19 _ _ h
  · replace h := e_f c3 h
    refine w_iload_n 2 dX11_mark_10 rfl rfl ?_
    refine w_iconst (v := 0) dX11_mark_11 (by decide) ?_
    refine w_iconst (v := 1) dX11_mark_12 (by decide) ?_
    replace h := e_bind h; obtain ⟨q4, e5, h⟩ := h
    refine w_callS1 (M2 := m_X11_within) (av := [.int (p2), .int (0), .int (1)]) (c_X11_within _ _ _ _ _ e5) dX11_mark_13 kd_X11_within wd_9_22 wd_9_23 rfl rfl ⟨Nat.le_of_ble_eq_true rfl, Nat.le_of_ble_eq_true rfl, Nat.le_of_ble_eq_true rfl, Nat.le_of_ble_eq_true rfl⟩ (Nat.le_of_ble_eq_true rfl) ?_
    refine w_if_ne 22 dX11_mark_16 (by decide) (fun c6 => ?_) (fun c6 => ?_)
    · replace h := e_f c6 h
      refine w_aload_n 0 ((some (0))) dX11_mark_22 rfl rfl ?_
      refine w_get (v := va_rf (some 2)) dX11_mark_23 fl_RX11_18 ⟨rfl, Or.inr ⟨rfl, by decide⟩⟩ (aFv_k rfl) ?_
      refine w_iload_n 1 dX11_mark_26 rfl rfl ?_
      replace h := e_bind h; obtain ⟨q7, e8, h⟩ := h
      refine w_callV1 (M2 := m_X3_isMarked) (av := [.int (p1)]) (ci := 3) (c_X3_isMarked _ _ _ e8) dX11_mark_27 kd_X3_isMarked wd_17_21 wd_17_22 wd_17_23 rfl rfl ⟨rfl, Or.inr ⟨rfl, by decide⟩⟩ rfl ⟨Nat.le_of_ble_eq_true rfl, Nat.le_of_ble_eq_true rfl, Nat.le_of_ble_eq_true rfl, Nat.le_of_ble_eq_true rfl⟩ (Nat.le_of_ble_eq_true rfl) ?_
      refine w_iload_n 2 dX11_mark_30 rfl rfl ?_
      refine w_iconst (v := 1) dX11_mark_31 (by decide) ?_
      refine w_icmp_ne 39 dX11_mark_32 (by decide) (fun c9 => ?_) (fun c9 => ?_)
      · replace h := e_f c9 h
        refine w_iconst (v := 0) dX11_mark_39 (by decide) ?_
        refine w_sub [0, 1] rfl ?_
        exact l_X11_mark_40 _ _ _ _ _ h
      · replace h := e_t c9 h
        refine w_iconst (v := 1) dX11_mark_35 (by decide) ?_
        refine w_goto 40 dX11_mark_36 (by decide) ?_
        refine w_sub [0, 1] rfl ?_
        exact l_X11_mark_40 _ _ _ _ _ h
    · replace h := e_t c6 h
      refine w_sub [] rfl ?_
      exact l_X11_mark_19 _ _ h
theorem dX7_begin_0 : decode cX7_begin 0 = .ok (.aload_n 0, 1) := by decide +kernel
theorem dX7_begin_1 : decode cX7_begin 1 = .ok (.getfield 11, 3) := by decide +kernel
theorem dX7_begin_4 : decode cX7_begin 4 = .ok (.iconst 0, 1) := by decide +kernel
theorem dX7_begin_5 : decode cX7_begin 5 = .ok (.invokestatic 85, 3) := by decide +kernel
theorem dX7_begin_8 : decode cX7_begin 8 = .ok (.aload_n 0, 1) := by decide +kernel
theorem dX7_begin_9 : decode cX7_begin 9 = .ok (.getfield 19, 3) := by decide +kernel
theorem dX7_begin_12 : decode cX7_begin 12 = .ok (.iconst 0, 1) := by decide +kernel
theorem dX7_begin_13 : decode cX7_begin 13 = .ok (.invokestatic 85, 3) := by decide +kernel
theorem dX7_begin_16 : decode cX7_begin 16 = .ok (.aload_n 0, 1) := by decide +kernel
theorem dX7_begin_17 : decode cX7_begin 17 = .ok (.getfield 11, 3) := by decide +kernel
theorem dX7_begin_20 : decode cX7_begin 20 = .ok (.iconst 1, 1) := by decide +kernel
theorem dX7_begin_21 : decode cX7_begin 21 = .ok (.aload_n 1, 1) := by decide +kernel
theorem dX7_begin_22 : decode cX7_begin 22 = .ok (.getfield 91, 3) := by decide +kernel
theorem dX7_begin_25 : decode cX7_begin 25 = .ok (.iastore, 1) := by decide +kernel
theorem dX7_begin_26 : decode cX7_begin 26 = .ok (.aload_n 0, 1) := by decide +kernel
theorem dX7_begin_27 : decode cX7_begin 27 = .ok (.getfield 11, 3) := by decide +kernel
theorem dX7_begin_30 : decode cX7_begin 30 = .ok (.iconst 2, 1) := by decide +kernel
theorem dX7_begin_31 : decode cX7_begin 31 = .ok (.aload_n 1, 1) := by decide +kernel
theorem dX7_begin_32 : decode cX7_begin 32 = .ok (.getfield 56, 3) := by decide +kernel
theorem dX7_begin_35 : decode cX7_begin 35 = .ok (.bipush 24, 2) := by decide +kernel
theorem dX7_begin_37 : decode cX7_begin 37 = .ok (.irem, 1) := by decide +kernel
theorem dX7_begin_38 : decode cX7_begin 38 = .ok (.iastore, 1) := by decide +kernel
theorem dX7_begin_39 : decode cX7_begin 39 = .ok (.aload_n 0, 1) := by decide +kernel
theorem dX7_begin_40 : decode cX7_begin 40 = .ok (.iconst 1, 1) := by decide +kernel
theorem dX7_begin_41 : decode cX7_begin 41 = .ok (.aload_n 1, 1) := by decide +kernel
theorem dX7_begin_42 : decode cX7_begin 42 = .ok (.getfield 69, 3) := by decide +kernel
theorem dX7_begin_45 : decode cX7_begin 45 = .ok (.ishl, 1) := by decide +kernel
theorem dX7_begin_46 : decode cX7_begin 46 = .ok (.putfield 22, 3) := by decide +kernel
theorem dX7_begin_49 : decode cX7_begin 49 = .ok (.aload_n 0, 1) := by decide +kernel
theorem dX7_begin_50 : decode cX7_begin 50 = .ok (.iconst 0, 1) := by decide +kernel
theorem dX7_begin_51 : decode cX7_begin 51 = .ok (.putfield 15, 3) := by decide +kernel
theorem dX7_begin_54 : decode cX7_begin 54 = .ok (.aload_n 0, 1) := by decide +kernel
theorem dX7_begin_55 : decode cX7_begin 55 = .ok (.aload_n 1, 1) := by decide +kernel
theorem dX7_begin_56 : decode cX7_begin 56 = .ok (.getfield 56, 3) := by decide +kernel
theorem dX7_begin_59 : decode cX7_begin 59 = .ok (.putfield 25, 3) := by decide +kernel
theorem dX7_begin_62 : decode cX7_begin 62 = .ok (.aload_n 0, 1) := by decide +kernel
theorem dX7_begin_63 : decode cX7_begin 63 = .ok (.aload_n 2, 1) := by decide +kernel
theorem dX7_begin_64 : decode cX7_begin 64 = .ok (.getfield 94, 3) := by decide +kernel
theorem dX7_begin_67 : decode cX7_begin 67 = .ok (.iconst 0, 1) := by decide +kernel
theorem dX7_begin_68 : decode cX7_begin 68 = .ok (.iaload, 1) := by decide +kernel
theorem dX7_begin_69 : decode cX7_begin 69 = .ok (.putfield 28, 3) := by decide +kernel
theorem dX7_begin_72 : decode cX7_begin 72 = .ok (.aload_n 0, 1) := by decide +kernel
theorem dX7_begin_73 : decode cX7_begin 73 = .ok (.aload_n 2, 1) := by decide +kernel
theorem dX7_begin_74 : decode cX7_begin 74 = .ok (.getfield 94, 3) := by decide +kernel
theorem dX7_begin_77 : decode cX7_begin 77 = .ok (.iconst 1, 1) := by decide +kernel
theorem dX7_begin_78 : decode cX7_begin 78 = .ok (.iaload, 1) := by decide +kernel
theorem dX7_begin_79 : decode cX7_begin 79 = .ok (.putfield 31, 3) := by decide +kernel
theorem dX7_begin_82 : decode cX7_begin 82 = .ok (.return_, 1) := by decide +kernel
theorem kd_X7_begin : aKd m_X7_begin 2 := ⟨wd_19_8, wd_4_20, ⟨by decide +kernel, by decide +kernel, by decide +kernel⟩⟩
set_option maxRecDepth 100000 in
set_option maxHeartbeats 4000000 in
theorem l_X7_begin_72  (x2 : Nat) (σ : aSt) (o : Unit × aSt) (h : f_X7_begin_72  x2 σ = some o) : AW true m_X7_begin 72 [(0, va_rf (some (20))), (2, va_rf (some (x2)))] [] σ 0 0 none o.2 := by
  unfold f_X7_begin_72 at h
  refine w_aload_n 0 ((some (20))) dX7_begin_72 rfl rfl ?_
  refine w_aload_n 1 ((some (x2))) dX7_begin_73 rfl rfl ?_
  replace h := e_grd h; obtain ⟨g8, h⟩ := h
  refine w_get (v := va_rf (some ((x2 + 1)))) dX7_begin_74 fl_RX7_94 ⟨g8.1, Or.inl g8.2⟩ (aFv_k rfl) ?_
  refine w_iconst (v := 1) dX7_begin_77 (by decide) ?_
  replace h := e_grd h; obtain ⟨g9, h⟩ := h
  replace h := e_grd h; obtain ⟨b10, h⟩ := h
  refine w_iaload dX7_begin_78 ⟨g9.1, Or.inl g9.2⟩ b10 ?_
  refine w_putI dX7_begin_79 fl_RX7_31 (Or.inl rfl) rfl ⟨rfl, Or.inr ⟨rfl, by decide⟩⟩ ?_
  obtain rfl := Option.some.inj h
  exact w_vreturn dX7_begin_82 rfl (Nat.le_of_ble_eq_true rfl) (Nat.le_of_ble_eq_true rfl)
set_option maxRecDepth 100000 in
set_option maxHeartbeats 4000000 in
theorem l_X7_begin_49  (x1 : Nat) (x2 : Option Nat) (σ : aSt) (o : Unit × aSt) (h : f_X7_begin_49  x1 x2 σ = some o) : AW true m_X7_begin 49 [(0, va_rf (some (20))), (1, va_rf (some (x1))), (2, va_rf (x2))] [] σ 0 0 none o.2 := by
  unfold f_X7_begin_49 at h
  refine w_aload_n 0 ((some (20))) dX7_begin_49 rfl rfl ?_
  refine w_iconst (v := 0) dX7_begin_50 (by decide) ?_
  refine w_putI dX7_begin_51 fl_RX7_15 (Or.inl rfl) rfl ⟨rfl, Or.inr ⟨rfl, by decide⟩⟩ ?_
  refine w_aload_n 0 ((some (20))) dX7_begin_54 rfl rfl ?_
  refine w_aload_n 1 ((some (x1))) dX7_begin_55 rfl rfl ?_
  replace h := e_grd h; obtain ⟨g11, h⟩ := h
  refine w_get dX7_begin_56 fl_RX7_56 ⟨g11.1, Or.inl g11.2⟩ (aFv_i rfl) ?_
  refine w_putI dX7_begin_59 fl_RX7_25 (Or.inl rfl) rfl ⟨rfl, Or.inr ⟨rfl, by decide⟩⟩ ?_
  refine w_aload_n 0 ((some (20))) dX7_begin_62 rfl rfl ?_
  refine w_aload_n 2 (x2) dX7_begin_63 rfl rfl ?_
  replace h := e_oS h; obtain ⟨a12, r13, h⟩ := h
  rw [r13]
  replace h := e_grd h; obtain ⟨g14, h⟩ := h
  refine w_get (v := va_rf (some ((a12 + 1)))) dX7_begin_64 fl_RX7_94 ⟨g14.1, Or.inl g14.2⟩ (aFv_k rfl) ?_
  refine w_iconst (v := 0) dX7_begin_67 (by decide) ?_
  replace h := e_grd h; obtain ⟨g15, h⟩ := h
  replace h := e_grd h; obtain ⟨b16, h⟩ := h
  refine w_iaload dX7_begin_68 ⟨g15.1, Or.inl g15.2⟩ b16 ?_
  refine w_putI dX7_begin_69 fl_RX7_28 (Or.inl rfl) rfl ⟨rfl, Or.inr ⟨rfl, by decide⟩⟩ ?_
  refine w_sub [0, 2] rfl ?_
  exact l_X7_begin_72 _ _ _ h
set_option maxRecDepth 100000 in
set_option maxHeartbeats 4000000 in
theorem c_X7_begin (p1 : Nat) (p2 : Option Nat) (σ : aSt) (o : Unit × aSt) (h : f_X7_begin p1 p2 σ = some o) : AM true m_X7_begin [va_rf (some (20)), va_rf (some (p1)), va_rf (p2)] σ none o.2 := by
  refine AM_of2 (lv := [(0, va_rf (some (20))), (1, va_rf (some (p1))), (2, va_rf (p2))]) (by decide +kernel) (by simp [lv_args, aRf_cat, aI_cat, aL_cat]) (by simp [lg_sl, aRf_cat, aI_cat, aL_cat]) ?_
  unfold f_X7_begin at h
  refine w_aload_n 0 ((some (20))) dX7_begin_0 rfl rfl ?_
  refine w_get (v := va_rf (some 21)) dX7_begin_1 fl_RX7_11 ⟨rfl, Or.inr ⟨rfl, by decide⟩⟩ (aFv_k rfl) ?_
  refine w_iconst (v := 0) dX7_begin_4 (by decide) ?_
  replace h := e_bind h; obtain ⟨q1, e2, h⟩ := h
  refine w_callS0 (M2 := m_J7_fill_53178) (av := [va_rf (some (21)), .int (0)]) (c_J7_fill_53178 _ _ _ _ e2) dX7_begin_5 kd_J7_fill_53178 wd_19_11 wd_6_9 rfl rfl ⟨Nat.le_of_ble_eq_true rfl, Nat.le_of_ble_eq_true rfl, Nat.le_of_ble_eq_true rfl, Nat.le_of_ble_eq_true rfl⟩ (Nat.le_of_ble_eq_true rfl) ?_
  refine w_aload_n 0 ((some (20))) dX7_begin_8 rfl rfl ?_
  refine w_get (v := va_rf (some 22)) dX7_begin_9 fl_RX7_19 ⟨rfl, Or.inr ⟨rfl, by decide⟩⟩ (aFv_k rfl) ?_
  refine w_iconst (v := 0) dX7_begin_12 (by decide) ?_
  replace h := e_bind h; obtain ⟨q3, e4, h⟩ := h
  refine w_callS0 (M2 := m_J7_fill_53178) (av := [va_rf (some (22)), .int (0)]) (c_J7_fill_53178 _ _ _ _ e4) dX7_begin_13 kd_J7_fill_53178 wd_19_11 wd_6_9 rfl rfl ⟨Nat.le_of_ble_eq_true rfl, Nat.le_of_ble_eq_true rfl, Nat.le_of_ble_eq_true rfl, Nat.le_of_ble_eq_true rfl⟩ (Nat.le_of_ble_eq_true rfl) ?_
  refine w_aload_n 0 ((some (20))) dX7_begin_16 rfl rfl ?_
  refine w_get (v := va_rf (some 21)) dX7_begin_17 fl_RX7_11 ⟨rfl, Or.inr ⟨rfl, by decide⟩⟩ (aFv_k rfl) ?_
  refine w_iconst (v := 1) dX7_begin_20 (by decide) ?_
  refine w_aload_n 1 ((some (p1))) dX7_begin_21 rfl rfl ?_
  replace h := e_grd h; obtain ⟨g5, h⟩ := h
  refine w_get dX7_begin_22 fl_RX7_91 ⟨g5.1, Or.inl g5.2⟩ (aFv_i rfl) ?_
  refine w_iastore dX7_begin_25 ⟨rfl, Or.inr ⟨rfl, by decide⟩⟩ (by decide) ?_
  refine w_aload_n 0 ((some (20))) dX7_begin_26 rfl rfl ?_
  refine w_get (v := va_rf (some 21)) dX7_begin_27 fl_RX7_11 ⟨rfl, Or.inr ⟨rfl, by decide⟩⟩ (aFv_k rfl) ?_
  refine w_iconst (v := 2) dX7_begin_30 (by decide) ?_
  refine w_aload_n 1 ((some (p1))) dX7_begin_31 rfl rfl ?_
  refine w_get dX7_begin_32 fl_RX7_56 ⟨g5.1, Or.inl g5.2⟩ (aFv_i rfl) ?_
  refine w_bipush (v := 24) dX7_begin_35 (by decide) ?_
  refine w_irem dX7_begin_37 (by decide) ?_
  refine w_iastore dX7_begin_38 ⟨rfl, Or.inr ⟨rfl, by decide⟩⟩ (by decide) ?_
  refine w_aload_n 0 ((some (20))) dX7_begin_39 rfl rfl ?_
  refine w_iconst (v := 1) dX7_begin_40 (by decide) ?_
  refine w_aload_n 1 ((some (p1))) dX7_begin_41 rfl rfl ?_
  refine w_get dX7_begin_42 fl_RX7_69 ⟨g5.1, Or.inl g5.2⟩ (aFv_i rfl) ?_
  refine w_ishl dX7_begin_45 ?_
  refine w_putI dX7_begin_46 fl_RX7_22 (Or.inl rfl) rfl ⟨rfl, Or.inr ⟨rfl, by decide⟩⟩ ?_
  exact l_X7_begin_49 _ _ _ _ h
theorem dX7_fade_0 : decode cX7_fade 0 = .ok (.iload_n 1, 1) := by decide +kernel
theorem dX7_fade_1 : decode cX7_fade 1 = .ok (.istore_n 3, 1) := by decide +kernel
theorem dX7_fade_2 : decode cX7_fade 2 = .ok (.aload_n 0, 1) := by decide +kernel
theorem dX7_fade_3 : decode cX7_fade 3 = .ok (.getfield 31, 3) := by decide +kernel
theorem dX7_fade_6 : decode cX7_fade 6 = .ok (.ifCond .le 12, 3) := by decide +kernel
theorem dX7_fade_9 : decode cX7_fade 9 = .ok (.iload_n 2, 1) := by decide +kernel
theorem dX7_fade_10 : decode cX7_fade 10 = .ok (.aload_n 0, 1) := by decide +kernel
theorem dX7_fade_11 : decode cX7_fade 11 = .ok (.getfield 31, 3) := by decide +kernel
theorem dX7_fade_14 : decode cX7_fade 14 = .ok (.idiv, 1) := by decide +kernel
theorem dX7_fade_15 : decode cX7_fade 15 = .ok (.goto 4, 3) := by decide +kernel
theorem dX7_fade_18 : decode cX7_fade 18 = .ok (.iconst 0, 1) := by decide +kernel
theorem dX7_fade_19 : decode cX7_fade 19 = .ok (.istore 4, 2) := by decide +kernel
theorem dX7_fade_21 : decode cX7_fade 21 = .ok (.iconst 0, 1) := by decide +kernel
theorem dX7_fade_22 : decode cX7_fade 22 = .ok (.istore 5, 2) := by decide +kernel
theorem dX7_fade_24 : decode cX7_fade 24 = .ok (.iload 5, 2) := by decide +kernel
theorem dX7_fade_26 : decode cX7_fade 26 = .ok (.iload 4, 2) := by decide +kernel
theorem dX7_fade_28 : decode cX7_fade 28 = .ok (.if_icmp .ge 22, 3) := by decide +kernel
theorem dX7_fade_31 : decode cX7_fade 31 = .ok (.iload 5, 2) := by decide +kernel
theorem dX7_fade_33 : decode cX7_fade 33 = .ok (.bipush 40, 2) := by decide +kernel
theorem dX7_fade_35 : decode cX7_fade 35 = .ok (.if_icmp .ge 15, 3) := by decide +kernel
theorem dX7_fade_38 : decode cX7_fade 38 = .ok (.iload_n 3, 1) := by decide +kernel
theorem dX7_fade_39 : decode cX7_fade 39 = .ok (.iload_n 3, 1) := by decide +kernel
theorem dX7_fade_40 : decode cX7_fade 40 = .ok (.iconst 4, 1) := by decide +kernel
theorem dX7_fade_41 : decode cX7_fade 41 = .ok (.idiv, 1) := by decide +kernel
theorem dX7_fade_42 : decode cX7_fade 42 = .ok (.isub, 1) := by decide +kernel
theorem dX7_fade_43 : decode cX7_fade 43 = .ok (.istore_n 3, 1) := by decide +kernel
theorem dX7_fade_44 : decode cX7_fade 44 = .ok (.iinc 5 1, 3) := by decide +kernel
theorem dX7_fade_47 : decode cX7_fade 47 = .ok (.goto (-23), 3) := by decide +kernel
theorem dX7_fade_50 : decode cX7_fade 50 = .ok (.iload_n 3, 1) := by decide +kernel
theorem dX7_fade_51 : decode cX7_fade 51 = .ok (.ireturn, 1) := by decide +kernel
theorem kd_X7_fade : aKd m_X7_fade 2 := ⟨wd_19_21, wd_4_20, ⟨by decide +kernel, by decide +kernel, by decide +kernel⟩⟩
set_option maxRecDepth 100000 in
set_option maxHeartbeats 4000000 in
theorem l_X7_fade_50  (x3 : Int32) (σ : aSt) (o : Int32 × aSt) (h : f_X7_fade_50  x3 σ = some o) : AW true m_X7_fade 50 [(3, Value.int (x3))] [] σ 0 0 (some (.int o.1)) o.2 := by
  unfold f_X7_fade_50 at h
  refine w_iload_n 0 dX7_fade_50 rfl rfl ?_
  obtain rfl := Option.some.inj h
  exact w_ireturn dX7_fade_51 rfl (Nat.le_of_ble_eq_true rfl) (Nat.le_of_ble_eq_true rfl)
set_option maxRecDepth 100000 in
set_option maxHeartbeats 4000000 in
theorem l_X7_fade_24_b (rec24 : Int32 → Int32 → Int32 → aSt → Option (Int32 × aSt)) (hrec24 : ∀ (x3 : Int32) (x4 : Int32) (x5 : Int32) (σ : aSt) (o : Int32 × aSt), rec24 x3 x4 x5 σ = some o → AW true m_X7_fade 24 [(3, Value.int (x3)), (4, Value.int (x4)), (5, Value.int (x5))] [] σ 0 0 (some (.int o.1)) o.2) (x3 : Int32) (x4 : Int32) (x5 : Int32) (σ : aSt) (o : Int32 × aSt) (h : f_X7_fade_24_b rec24 x3 x4 x5 σ = some o) : AW true m_X7_fade 24 [(3, Value.int (x3)), (4, Value.int (x4)), (5, Value.int (x5))] [] σ 0 0 (some (.int o.1)) o.2 := by
  unfold f_X7_fade_24_b at h
  refine w_iload 2 dX7_fade_24 rfl ?_
  refine w_iload 1 dX7_fade_26 rfl ?_
  refine w_icmp_ge 50 dX7_fade_28 (by decide) (fun c3 => ?_) (fun c3 => ?_)
  · replace h := e_t c3 h
    refine w_sub [0] rfl ?_
    exact l_X7_fade_50 _ _ _ h
  · replace h := e_f c3 h
    refine w_iload 2 dX7_fade_31 rfl ?_
    refine w_bipush (v := 40) dX7_fade_33 (by decide) ?_
    refine w_icmp_ge 50 dX7_fade_35 (by decide) (fun c4 => ?_) (fun c4 => ?_)
    · replace h := e_t c4 h
      refine w_sub [0] rfl ?_
      exact l_X7_fade_50 _ _ _ h
    · replace h := e_f c4 h
      refine w_iload_n 0 dX7_fade_38 rfl rfl ?_
      refine w_iload_n 0 dX7_fade_39 rfl rfl ?_
      refine w_iconst (v := 4) dX7_fade_40 (by decide) ?_
      refine w_idiv dX7_fade_41 (by decide) ?_
      refine w_isub dX7_fade_42 ?_
      refine w_istore_n dX7_fade_43 rfl (by decide) rfl ?_
      refine w_iinc (q := 2) (v := x5 + 1) dX7_fade_44 rfl rfl (by decide) rfl ?_
      refine w_goto 24 dX7_fade_47 (by decide) ?_
      refine w_sub [1, 2, 0] rfl ?_
      exact hrec24 _ _ _ _ _ h
theorem l_X7_fade_24  : ∀ (n : Nat) (x3 : Int32) (x4 : Int32) (x5 : Int32) (σ : aSt) (o : Int32 × aSt), f_X7_fade_24  n x3 x4 x5 σ = some o → AW true m_X7_fade 24 [(3, Value.int (x3)), (4, Value.int (x4)), (5, Value.int (x5))] [] σ 0 0 (some (.int o.1)) o.2
  | 0 => fun x3 x4 x5 σ o h => by cases h
  | n + 1 => fun x3 x4 x5 σ o h => l_X7_fade_24_b (f_X7_fade_24  n) (l_X7_fade_24  n) x3 x4 x5 σ o h
set_option maxRecDepth 100000 in
set_option maxHeartbeats 4000000 in
theorem l_X7_fade_19  (x3 : Int32) (t0 : Int32) (σ : aSt) (o : Int32 × aSt) (h : f_X7_fade_19  x3 t0 σ = some o) : AW true m_X7_fade 19 [(3, Value.int (x3))] [.int (t0)] σ 0 0 (some (.int o.1)) o.2 := by
  unfold f_X7_fade_19 at h
  refine w_istore dX7_fade_19 (by decide) rfl ?_
  refine w_iconst (v := 0) dX7_fade_21 (by decide) ?_
  refine w_istore dX7_fade_22 (by decide) rfl ?_
  refine w_sub [2, 1, 0] rfl ?_
  exact l_X7_fade_24 aN _ _ _ _ _ h
set_option maxRecDepth 100000 in
set_option maxHeartbeats 4000000 in
theorem c_X7_fade (p1 : Int32) (p2 : Int32) (σ : aSt) (o : Int32 × aSt) (h : f_X7_fade p1 p2 σ = some o) : AM true m_X7_fade [va_rf (some (20)), .int (p1), .int (p2)] σ (some (.int o.1)) o.2 := by
  refine AM_of2 (lv := [(0, va_rf (some (20))), (1, Value.int (p1)), (2, Value.int (p2))]) (by decide +kernel) rfl (Nat.le_of_ble_eq_true rfl) ?_
  unfold f_X7_fade at h
  refine w_iload_n 1 dX7_fade_0 rfl rfl ?_
  refine w_istore_n dX7_fade_1 rfl (by decide) rfl ?_
  refine w_aload_n 1 ((some (20))) dX7_fade_2 rfl rfl ?_
  refine w_get dX7_fade_3 fl_RX7_31 ⟨rfl, Or.inr ⟨rfl, by decide⟩⟩ (aFv_i rfl) ?_
  refine w_if_le 18 dX7_fade_6 (by decide) (fun c1 => ?_) (fun c1 => ?_)
  · replace h := e_t c1 h
    refine w_iconst (v := 0) dX7_fade_18 (by decide) ?_
    refine w_sub [0] rfl ?_
    exact l_X7_fade_19 _ _ _ _ h
  · replace h := e_f c1 h
    refine w_iload_n 3 dX7_fade_9 rfl rfl ?_
    refine w_aload_n 1 ((some (20))) dX7_fade_10 rfl rfl ?_
    refine w_get dX7_fade_11 fl_RX7_31 ⟨rfl, Or.inr ⟨rfl, by decide⟩⟩ (aFv_i rfl) ?_
    replace h := e_grd h; obtain ⟨g2, h⟩ := h
    refine w_idiv dX7_fade_14 g2 ?_
    refine w_goto 19 dX7_fade_15 (by decide) ?_
    refine w_sub [0] rfl ?_
    exact l_X7_fade_19 _ _ _ _ h
theorem dX7_add_0 : decode cX7_add 0 = .ok (.aload_n 1, 1) := by decide +kernel
theorem dX7_add_1 : decode cX7_add 1 = .ok (.getfield 56, 3) := by decide +kernel
theorem dX7_add_4 : decode cX7_add 4 = .ok (.aload_n 2, 1) := by decide +kernel
theorem dX7_add_5 : decode cX7_add 5 = .ok (.getfield 56, 3) := by decide +kernel
theorem dX7_add_8 : decode cX7_add 8 = .ok (.aload_n 0, 1) := by decide +kernel
theorem dX7_add_9 : decode cX7_add 9 = .ok (.getfield 28, 3) := by decide +kernel
theorem dX7_add_12 : decode cX7_add 12 = .ok (.isub, 1) := by decide +kernel
theorem dX7_add_13 : decode cX7_add 13 = .ok (.if_icmp .le 7, 3) := by decide +kernel
theorem dX7_add_16 : decode cX7_add 16 = .ok (.iconst 1, 1) := by decide +kernel
theorem dX7_add_17 : decode cX7_add 17 = .ok (.goto 4, 3) := by decide +kernel
theorem dX7_add_20 : decode cX7_add 20 = .ok (.iconst 0, 1) := by decide +kernel
theorem dX7_add_21 : decode cX7_add 21 = .ok (.istore_n 3, 1) := by decide +kernel
theorem dX7_add_22 : decode cX7_add 22 = .ok (.aload_n 0, 1) := by decide +kernel
theorem dX7_add_23 : decode cX7_add 23 = .ok (.getfield 19, 3) := by decide +kernel
theorem dX7_add_26 : decode cX7_add 26 = .ok (.aload_n 1, 1) := by decide +kernel
theorem dX7_add_27 : decode cX7_add 27 = .ok (.getfield 99, 3) := by decide +kernel
theorem dX7_add_30 : decode cX7_add 30 = .ok (.dup2, 1) := by decide +kernel
theorem dX7_add_31 : decode cX7_add 31 = .ok (.iaload, 1) := by decide +kernel
theorem dX7_add_32 : decode cX7_add 32 = .ok (.iconst 1, 1) := by decide +kernel
theorem dX7_add_33 : decode cX7_add 33 = .ok (.aload_n 1, 1) := by decide +kernel
theorem dX7_add_34 : decode cX7_add 34 = .ok (.getfield 69, 3) := by decide +kernel
theorem dX7_add_37 : decode cX7_add 37 = .ok (.ishl, 1) := by decide +kernel
theorem dX7_add_38 : decode cX7_add 38 = .ok (.ior, 1) := by decide +kernel
theorem dX7_add_39 : decode cX7_add 39 = .ok (.iastore, 1) := by decide +kernel
theorem dX7_add_40 : decode cX7_add 40 = .ok (.aload_n 0, 1) := by decide +kernel
theorem dX7_add_41 : decode cX7_add 41 = .ok (.getfield 19, 3) := by decide +kernel
theorem dX7_add_44 : decode cX7_add 44 = .ok (.aload_n 1, 1) := by decide +kernel
theorem dX7_add_45 : decode cX7_add 45 = .ok (.getfield 69, 3) := by decide +kernel
theorem dX7_add_48 : decode cX7_add 48 = .ok (.dup2, 1) := by decide +kernel
theorem dX7_add_49 : decode cX7_add 49 = .ok (.iaload, 1) := by decide +kernel
theorem dX7_add_50 : decode cX7_add 50 = .ok (.iconst 1, 1) := by decide +kernel
theorem dX7_add_51 : decode cX7_add 51 = .ok (.aload_n 1, 1) := by decide +kernel
theorem dX7_add_52 : decode cX7_add 52 = .ok (.getfield 99, 3) := by decide +kernel
theorem dX7_add_55 : decode cX7_add 55 = .ok (.ishl, 1) := by decide +kernel
theorem dX7_add_56 : decode cX7_add 56 = .ok (.ior, 1) := by decide +kernel
theorem dX7_add_57 : decode cX7_add 57 = .ok (.iastore, 1) := by decide +kernel
theorem dX7_add_58 : decode cX7_add 58 = .ok (.iload_n 3, 1) := by decide +kernel
theorem dX7_add_59 : decode cX7_add 59 = .ok (.ifCond .eq 25, 3) := by decide +kernel
theorem dX7_add_62 : decode cX7_add 62 = .ok (.aload_n 1, 1) := by decide +kernel
theorem dX7_add_63 : decode cX7_add 63 = .ok (.getfield 69, 3) := by decide +kernel
theorem dX7_add_66 : decode cX7_add 66 = .ok (.aload_n 2, 1) := by decide +kernel
theorem dX7_add_67 : decode cX7_add 67 = .ok (.getfield 69, 3) := by decide +kernel
theorem dX7_add_70 : decode cX7_add 70 = .ok (.if_icmp .ne 14, 3) := by decide +kernel
theorem dX7_add_73 : decode cX7_add 73 = .ok (.aload_n 0, 1) := by decide +kernel
theorem dX7_add_74 : decode cX7_add 74 = .ok (.getfield 11, 3) := by decide +kernel
theorem dX7_add_77 : decode cX7_add 77 = .ok (.bipush 9, 2) := by decide +kernel
theorem dX7_add_79 : decode cX7_add 79 = .ok (.dup2, 1) := by decide +kernel
theorem dX7_add_80 : decode cX7_add 80 = .ok (.iaload, 1) := by decide +kernel
theorem dX7_add_81 : decode cX7_add 81 = .ok (.iconst 1, 1) := by decide +kernel
theorem dX7_add_82 : decode cX7_add 82 = .ok (.iadd, 1) := by decide +kernel
theorem dX7_add_83 : decode cX7_add 83 = .ok (.iastore, 1) := by decide +kernel
theorem dX7_add_84 : decode cX7_add 84 = .ok (.aload_n 1, 1) := by decide +kernel
theorem dX7_add_85 : decode cX7_add 85 = .ok (.getfield 99, 3) := by decide +kernel
theorem dX7_add_88 : decode cX7_add 88 = .ok (.aload_n 2, 1) := by decide +kernel
theorem dX7_add_89 : decode cX7_add 89 = .ok (.getfield 99, 3) := by decide +kernel
theorem dX7_add_92 : decode cX7_add 92 = .ok (.if_icmp .eq 4, 3) := by decide +kernel
theorem dX7_add_95 : decode cX7_add 95 = .ok (.return_, 1) := by decide +kernel
theorem dX7_add_96 : decode cX7_add 96 = .ok (.iload_n 3, 1) := by decide +kernel
theorem dX7_add_97 : decode cX7_add 97 = .ok (.ifCond .eq 41, 3) := by decide +kernel
theorem dX7_add_100 : decode cX7_add 100 = .ok (.aload_n 0, 1) := by decide +kernel
theorem dX7_add_101 : decode cX7_add 101 = .ok (.getfield 11, 3) := by decide +kernel
theorem dX7_add_104 : decode cX7_add 104 = .ok (.iconst 3, 1) := by decide +kernel
theorem dX7_add_105 : decode cX7_add 105 = .ok (.dup2, 1) := by decide +kernel
theorem dX7_add_106 : decode cX7_add 106 = .ok (.iaload, 1) := by decide +kernel
theorem dX7_add_107 : decode cX7_add 107 = .ok (.iconst 1, 1) := by decide +kernel
theorem dX7_add_108 : decode cX7_add 108 = .ok (.iadd, 1) := by decide +kernel
theorem dX7_add_109 : decode cX7_add 109 = .ok (.iastore, 1) := by decide +kernel
theorem dX7_add_110 : decode cX7_add 110 = .ok (.aload_n 0, 1) := by decide +kernel
theorem dX7_add_111 : decode cX7_add 111 = .ok (.getfield 11, 3) := by decide +kernel
theorem dX7_add_114 : decode cX7_add 114 = .ok (.iconst 4, 1) := by decide +kernel
theorem dX7_add_115 : decode cX7_add 115 = .ok (.dup2, 1) := by decide +kernel
theorem dX7_add_116 : decode cX7_add 116 = .ok (.iaload, 1) := by decide +kernel
theorem dX7_add_117 : decode cX7_add 117 = .ok (.aload_n 1, 1) := by decide +kernel
theorem dX7_add_118 : decode cX7_add 118 = .ok (.getfield 78, 3) := by decide +kernel
theorem dX7_add_121 : decode cX7_add 121 = .ok (.iadd, 1) := by decide +kernel
theorem dX7_add_122 : decode cX7_add 122 = .ok (.iastore, 1) := by decide +kernel
theorem dX7_add_123 : decode cX7_add 123 = .ok (.aload_n 0, 1) := by decide +kernel
theorem dX7_add_124 : decode cX7_add 124 = .ok (.dup, 1) := by decide +kernel
theorem dX7_add_125 : decode cX7_add 125 = .ok (.getfield 22, 3) := by decide +kernel
theorem dX7_add_128 : decode cX7_add 128 = .ok (.iconst 1, 1) := by decide +kernel
theorem dX7_add_129 : decode cX7_add 129 = .ok (.aload_n 1, 1) := by decide +kernel
theorem dX7_add_130 : decode cX7_add 130 = .ok (.getfield 69, 3) := by decide +kernel
theorem dX7_add_133 : decode cX7_add 133 = .ok (.ishl, 1) := by decide +kernel
theorem dX7_add_134 : decode cX7_add 134 = .ok (.ior, 1) := by decide +kernel
theorem dX7_add_135 : decode cX7_add 135 = .ok (.putfield 22, 3) := by decide +kernel
theorem dX7_add_138 : decode cX7_add 138 = .ok (.aload_n 1, 1) := by decide +kernel
theorem dX7_add_139 : decode cX7_add 139 = .ok (.getfield 69, 3) := by decide +kernel
theorem dX7_add_142 : decode cX7_add 142 = .ok (.aload_n 2, 1) := by decide +kernel
theorem dX7_add_143 : decode cX7_add 143 = .ok (.getfield 69, 3) := by decide +kernel
theorem dX7_add_146 : decode cX7_add 146 = .ok (.if_icmp .ne 14, 3) := by decide +kernel
theorem dX7_add_149 : decode cX7_add 149 = .ok (.aload_n 0, 1) := by decide +kernel
theorem dX7_add_150 : decode cX7_add 150 = .ok (.getfield 11, 3) := by decide +kernel
theorem dX7_add_153 : decode cX7_add 153 = .ok (.bipush 6, 2) := by decide +kernel
theorem dX7_add_155 : decode cX7_add 155 = .ok (.dup2, 1) := by decide +kernel
theorem dX7_add_156 : decode cX7_add 156 = .ok (.iaload, 1) := by decide +kernel
theorem dX7_add_157 : decode cX7_add 157 = .ok (.iconst 1, 1) := by decide +kernel
theorem dX7_add_158 : decode cX7_add 158 = .ok (.iadd, 1) := by decide +kernel
theorem dX7_add_159 : decode cX7_add 159 = .ok (.iastore, 1) := by decide +kernel
theorem dX7_add_160 : decode cX7_add 160 = .ok (.aload_n 0, 1) := by decide +kernel
theorem dX7_add_161 : decode cX7_add 161 = .ok (.aload_n 0, 1) := by decide +kernel
theorem dX7_add_162 : decode cX7_add 162 = .ok (.aload_n 0, 1) := by decide +kernel
theorem dX7_add_163 : decode cX7_add 163 = .ok (.getfield 15, 3) := by decide +kernel
theorem dX7_add_166 : decode cX7_add 166 = .ok (.aload_n 1, 1) := by decide +kernel
theorem dX7_add_167 : decode cX7_add 167 = .ok (.getfield 56, 3) := by decide +kernel
theorem dX7_add_170 : decode cX7_add 170 = .ok (.aload_n 0, 1) := by decide +kernel
theorem dX7_add_171 : decode cX7_add 171 = .ok (.getfield 25, 3) := by decide +kernel
theorem dX7_add_174 : decode cX7_add 174 = .ok (.isub, 1) := by decide +kernel
theorem dX7_add_175 : decode cX7_add 175 = .ok (.invokevirtual 59, 3) := by decide +kernel
theorem dX7_add_178 : decode cX7_add 178 = .ok (.putfield 15, 3) := by decide +kernel
theorem dX7_add_181 : decode cX7_add 181 = .ok (.aload_n 0, 1) := by decide +kernel
theorem dX7_add_182 : decode cX7_add 182 = .ok (.dup, 1) := by decide +kernel
theorem dX7_add_183 : decode cX7_add 183 = .ok (.getfield 15, 3) := by decide +kernel
theorem dX7_add_186 : decode cX7_add 186 = .ok (.aload_n 1, 1) := by decide +kernel
theorem dX7_add_187 : decode cX7_add 187 = .ok (.getfield 78, 3) := by decide +kernel
theorem dX7_add_190 : decode cX7_add 190 = .ok (.aload_n 0, 1) := by decide +kernel
theorem dX7_add_191 : decode cX7_add 191 = .ok (.getfield 15, 3) := by decide +kernel
theorem dX7_add_194 : decode cX7_add 194 = .ok (.isub, 1) := by decide +kernel
theorem dX7_add_195 : decode cX7_add 195 = .ok (.iconst 4, 1) := by decide +kernel
theorem dX7_add_196 : decode cX7_add 196 = .ok (.idiv, 1) := by decide +kernel
theorem dX7_add_197 : decode cX7_add 197 = .ok (.iadd, 1) := by decide +kernel
theorem dX7_add_198 : decode cX7_add 198 = .ok (.putfield 15, 3) := by decide +kernel
theorem dX7_add_201 : decode cX7_add 201 = .ok (.aload_n 0, 1) := by decide +kernel
theorem dX7_add_202 : decode cX7_add 202 = .ok (.aload_n 1, 1) := by decide +kernel
theorem dX7_add_203 : decode cX7_add 203 = .ok (.getfield 56, 3) := by decide +kernel
theorem dX7_add_206 : decode cX7_add 206 = .ok (.putfield 25, 3) := by decide +kernel
theorem dX7_add_209 : decode cX7_add 209 = .ok (.return_, 1) := by decide +kernel
theorem kd_X7_add : aKd m_X7_add 2 := ⟨wd_19_16, wd_4_20, ⟨by decide +kernel, by decide +kernel, by decide +kernel⟩⟩
set_option maxRecDepth 100000 in
set_option maxHeartbeats 4000000 in
theorem l_X7_add_160  (x1 : Nat) (σ : aSt) (o : Unit × aSt) (h : f_X7_add_160  x1 σ = some o) : AW true m_X7_add 160 [(0, va_rf (some (20))), (1, va_rf (some (x1)))] [] σ 0 0 none o.2 := by
  unfold f_X7_add_160 at h
  refine w_aload_n 0 ((some (20))) dX7_add_160 rfl rfl ?_
  refine w_aload_n 0 ((some (20))) dX7_add_161 rfl rfl ?_
  refine w_aload_n 0 ((some (20))) dX7_add_162 rfl rfl ?_
  refine w_get dX7_add_163 fl_RX7_15 ⟨rfl, Or.inr ⟨rfl, by decide⟩⟩ (aFv_i rfl) ?_
  refine w_aload_n 1 ((some (x1))) dX7_add_166 rfl rfl ?_
  replace h := e_grd h; obtain ⟨g4, h⟩ := h
  refine w_get dX7_add_167 fl_RX7_56 ⟨g4.1, Or.inl g4.2⟩ (aFv_i rfl) ?_
  refine w_aload_n 0 ((some (20))) dX7_add_170 rfl rfl ?_
  refine w_get dX7_add_171 fl_RX7_25 ⟨rfl, Or.inr ⟨rfl, by decide⟩⟩ (aFv_i rfl) ?_
  refine w_isub dX7_add_174 ?_
  replace h := e_bind h; obtain ⟨q5, e6, h⟩ := h
  refine w_callV1 (M2 := m_X7_fade) (av := [.int (gI σ 20 1), .int ((gI σ x1 1) - (gI σ 20 4))]) (ci := 7) (c_X7_fade _ _ _ _ e6) dX7_add_175 kd_X7_fade wd_19_18 wd_19_19 wd_19_20 rfl rfl ⟨rfl, Or.inr ⟨rfl, by decide⟩⟩ rfl ⟨Nat.le_of_ble_eq_true rfl, Nat.le_of_ble_eq_true rfl, Nat.le_of_ble_eq_true rfl, Nat.le_of_ble_eq_true rfl⟩ (Nat.le_of_ble_eq_true rfl) ?_
  refine w_putI dX7_add_178 fl_RX7_15 (Or.inl rfl) rfl ⟨rfl, Or.inr ⟨rfl, by decide⟩⟩ ?_
  refine w_aload_n 0 ((some (20))) dX7_add_181 rfl rfl ?_
  refine w_dup dX7_add_182 (aRf_cat _) ?_
  refine w_get dX7_add_183 fl_RX7_15 ⟨rfl, Or.inr ⟨rfl, by decide⟩⟩ (aFv_i rfl) ?_
  refine w_aload_n 1 ((some (x1))) dX7_add_186 rfl rfl ?_
  replace h := e_grd h; obtain ⟨g7, h⟩ := h
  refine w_get dX7_add_187 fl_RX7_78 ⟨g7.1, Or.inl g7.2⟩ (aFv_i rfl) ?_
  refine w_aload_n 0 ((some (20))) dX7_add_190 rfl rfl ?_
  refine w_get dX7_add_191 fl_RX7_15 ⟨rfl, Or.inr ⟨rfl, by decide⟩⟩ (aFv_i rfl) ?_
  refine w_isub dX7_add_194 ?_
  refine w_iconst (v := 4) dX7_add_195 (by decide) ?_
  refine w_idiv dX7_add_196 (by decide) ?_
  refine w_iadd dX7_add_197 ?_
  refine w_putI dX7_add_198 fl_RX7_15 (Or.inl rfl) rfl ⟨rfl, Or.inr ⟨rfl, by decide⟩⟩ ?_
  refine w_aload_n 0 ((some (20))) dX7_add_201 rfl rfl ?_
  refine w_aload_n 1 ((some (x1))) dX7_add_202 rfl rfl ?_
  refine w_get dX7_add_203 fl_RX7_56 ⟨g7.1, Or.inl g7.2⟩ (aFv_i rfl) ?_
  refine w_putI dX7_add_206 fl_RX7_25 (Or.inl rfl) rfl ⟨rfl, Or.inr ⟨rfl, by decide⟩⟩ ?_
  obtain rfl := Option.some.inj h
  exact w_vreturn dX7_add_209 rfl (Nat.le_of_ble_eq_true rfl) (Nat.le_of_ble_eq_true rfl)
set_option maxRecDepth 100000 in
set_option maxHeartbeats 4000000 in
theorem l_X7_add_138  (x1 : Nat) (x2 : Nat) (σ : aSt) (o : Unit × aSt) (h : f_X7_add_138  x1 x2 σ = some o) : AW true m_X7_add 138 [(0, va_rf (some (20))), (1, va_rf (some (x1))), (2, va_rf (some (x2)))] [] σ 0 0 none o.2 := by
  unfold f_X7_add_138 at h
  refine w_aload_n 1 ((some (x1))) dX7_add_138 rfl rfl ?_
  replace h := e_grd h; obtain ⟨g8, h⟩ := h
  refine w_get dX7_add_139 fl_RX7_69 ⟨g8.1, Or.inl g8.2⟩ (aFv_i rfl) ?_
  refine w_aload_n 2 ((some (x2))) dX7_add_142 rfl rfl ?_
  replace h := e_grd h; obtain ⟨g9, h⟩ := h
  refine w_get dX7_add_143 fl_RX7_69 ⟨g9.1, Or.inl g9.2⟩ (aFv_i rfl) ?_
  refine w_icmp_ne 160 dX7_add_146 (by decide) (fun c10 => ?_) (fun c10 => ?_)
  · replace h := e_f c10 h
    refine w_sub [0, 1] rfl ?_
    exact l_X7_add_160 _ _ _ h
  · replace h := e_t c10 h
    refine w_aload_n 0 ((some (20))) dX7_add_149 rfl rfl ?_
    refine w_get (v := va_rf (some 21)) dX7_add_150 fl_RX7_11 ⟨rfl, Or.inr ⟨rfl, by decide⟩⟩ (aFv_k rfl) ?_
    refine w_bipush (v := 6) dX7_add_153 (by decide) ?_
    refine w_dup2 dX7_add_155 rfl (aRf_cat _) ?_
    refine w_iaload dX7_add_156 ⟨rfl, Or.inr ⟨rfl, by decide⟩⟩ (by decide) ?_
    refine w_iconst (v := 1) dX7_add_157 (by decide) ?_
    refine w_iadd dX7_add_158 ?_
    refine w_iastore dX7_add_159 ⟨rfl, Or.inr ⟨rfl, by decide⟩⟩ (by decide) ?_
    refine w_sub [0, 1] rfl ?_
    exact l_X7_add_160 _ _ _ h
set_option maxRecDepth 100000 in
set_option maxHeartbeats 4000000 in
theorem l_X7_add_84  (x1 : Nat) (x2 : Nat) (x3 : Int32) (σ : aSt) (o : Unit × aSt) (h : f_X7_add_84  x1 x2 x3 σ = some o) : AW true m_X7_add 84 [(0, va_rf (some (20))), (1, va_rf (some (x1))), (2, va_rf (some (x2))), (3, Value.int (x3))] [] σ 0 0 none o.2 := by
  unfold f_X7_add_84 at h
  refine w_aload_n 1 ((some (x1))) dX7_add_84 rfl rfl ?_
  replace h := e_grd h; obtain ⟨g13, h⟩ := h
  refine w_get dX7_add_85 fl_RX7_99 ⟨g13.1, Or.inl g13.2⟩ (aFv_i rfl) ?_
  refine w_aload_n 2 ((some (x2))) dX7_add_88 rfl rfl ?_
  replace h := e_grd h; obtain ⟨g14, h⟩ := h
  refine w_get dX7_add_89 fl_RX7_99 ⟨g14.1, Or.inl g14.2⟩ (aFv_i rfl) ?_
  refine w_icmp_eq 96 dX7_add_92 (by decide) (fun c15 => ?_) (fun c15 => ?_)
  · replace h := e_t c15 h
    refine w_iload_n 3 dX7_add_96 rfl rfl ?_
    refine w_if_eq 138 dX7_add_97 (by decide) (fun c16 => ?_) (fun c16 => ?_)
    · replace h := e_t c16 h
      refine w_sub [0, 1, 2] rfl ?_
      exact l_X7_add_138 _ _ _ _ h
    · replace h := e_f c16 h
      refine w_aload_n 0 ((some (20))) dX7_add_100 rfl rfl ?_
      refine w_get (v := va_rf (some 21)) dX7_add_101 fl_RX7_11 ⟨rfl, Or.inr ⟨rfl, by decide⟩⟩ (aFv_k rfl) ?_
      refine w_iconst (v := 3) dX7_add_104 (by decide) ?_
      refine w_dup2 dX7_add_105 rfl (aRf_cat _) ?_
      refine w_iaload dX7_add_106 ⟨rfl, Or.inr ⟨rfl, by decide⟩⟩ (by decide) ?_
      refine w_iconst (v := 1) dX7_add_107 (by decide) ?_
      refine w_iadd dX7_add_108 ?_
      refine w_iastore dX7_add_109 ⟨rfl, Or.inr ⟨rfl, by decide⟩⟩ (by decide) ?_
      refine w_aload_n 0 ((some (20))) dX7_add_110 rfl rfl ?_
      refine w_get (v := va_rf (some 21)) dX7_add_111 fl_RX7_11 ⟨rfl, Or.inr ⟨rfl, by decide⟩⟩ (aFv_k rfl) ?_
      refine w_iconst (v := 4) dX7_add_114 (by decide) ?_
      refine w_dup2 dX7_add_115 rfl (aRf_cat _) ?_
      refine w_iaload dX7_add_116 ⟨rfl, Or.inr ⟨rfl, by decide⟩⟩ (by decide) ?_
      refine w_aload_n 1 ((some (x1))) dX7_add_117 rfl rfl ?_
      refine w_get dX7_add_118 fl_RX7_78 ⟨g13.1, Or.inl g13.2⟩ (aFv_i rfl) ?_
      refine w_iadd dX7_add_121 ?_
      refine w_iastore dX7_add_122 ⟨rfl, Or.inr ⟨rfl, by decide⟩⟩ (by decide) ?_
      refine w_aload_n 0 ((some (20))) dX7_add_123 rfl rfl ?_
      refine w_dup dX7_add_124 (aRf_cat _) ?_
      refine w_get dX7_add_125 fl_RX7_22 ⟨rfl, Or.inr ⟨rfl, by decide⟩⟩ (aFv_i rfl) ?_
      refine w_iconst (v := 1) dX7_add_128 (by decide) ?_
      refine w_aload_n 1 ((some (x1))) dX7_add_129 rfl rfl ?_
      refine w_get dX7_add_130 fl_RX7_69 ⟨g13.1, Or.inl g13.2⟩ (aFv_i rfl) ?_
      refine w_ishl dX7_add_133 ?_
      refine w_ior dX7_add_134 ?_
      refine w_putI dX7_add_135 fl_RX7_22 (Or.inl rfl) rfl ⟨rfl, Or.inr ⟨rfl, by decide⟩⟩ ?_
      refine w_sub [0, 1, 2] rfl ?_
      exact l_X7_add_138 _ _ _ _ h
  · replace h := e_f c15 h
    obtain rfl := Option.some.inj h
    exact w_vreturn dX7_add_95 rfl (Nat.le_of_ble_eq_true rfl) (Nat.le_of_ble_eq_true rfl)
set_option maxRecDepth 100000 in
set_option maxHeartbeats 4000000 in
theorem l_X7_add_21  (x1 : Nat) (x2 : Nat) (t0 : Int32) (σ : aSt) (o : Unit × aSt) (h : f_X7_add_21  x1 x2 t0 σ = some o) : AW true m_X7_add 21 [(0, va_rf (some (20))), (1, va_rf (some (x1))), (2, va_rf (some (x2)))] [.int (t0)] σ 0 0 none o.2 := by
  unfold f_X7_add_21 at h
  refine w_istore_n dX7_add_21 rfl (by decide) rfl ?_
  refine w_aload_n 1 ((some (20))) dX7_add_22 rfl rfl ?_
  refine w_get (v := va_rf (some 22)) dX7_add_23 fl_RX7_19 ⟨rfl, Or.inr ⟨rfl, by decide⟩⟩ (aFv_k rfl) ?_
  refine w_aload_n 2 ((some (x1))) dX7_add_26 rfl rfl ?_
  replace h := e_grd h; obtain ⟨g21, h⟩ := h
  refine w_get dX7_add_27 fl_RX7_99 ⟨g21.1, Or.inl g21.2⟩ (aFv_i rfl) ?_
  refine w_dup2 dX7_add_30 rfl (aRf_cat _) ?_
  replace h := e_grd h; obtain ⟨b22, h⟩ := h
  refine w_iaload dX7_add_31 ⟨rfl, Or.inr ⟨rfl, by decide⟩⟩ b22 ?_
  refine w_iconst (v := 1) dX7_add_32 (by decide) ?_
  refine w_aload_n 2 ((some (x1))) dX7_add_33 rfl rfl ?_
  refine w_get dX7_add_34 fl_RX7_69 ⟨g21.1, Or.inl g21.2⟩ (aFv_i rfl) ?_
  refine w_ishl dX7_add_37 ?_
  refine w_ior dX7_add_38 ?_
  replace h := e_grd h; obtain ⟨b23, h⟩ := h
  refine w_iastore dX7_add_39 ⟨rfl, Or.inr ⟨rfl, by decide⟩⟩ b23 ?_
  refine w_aload_n 1 ((some (20))) dX7_add_40 rfl rfl ?_
  refine w_get (v := va_rf (some 22)) dX7_add_41 fl_RX7_19 ⟨rfl, Or.inr ⟨rfl, by decide⟩⟩ (aFv_k rfl) ?_
  refine w_aload_n 2 ((some (x1))) dX7_add_44 rfl rfl ?_
  refine w_get dX7_add_45 fl_RX7_69 ⟨g21.1, Or.inl g21.2⟩ (aFv_i rfl) ?_
  refine w_dup2 dX7_add_48 rfl (aRf_cat _) ?_
  replace h := e_grd h; obtain ⟨b24, h⟩ := h
  refine w_iaload dX7_add_49 ⟨rfl, Or.inr ⟨rfl, by decide⟩⟩ b24 ?_
  refine w_iconst (v := 1) dX7_add_50 (by decide) ?_
  refine w_aload_n 2 ((some (x1))) dX7_add_51 rfl rfl ?_
  refine w_get dX7_add_52 fl_RX7_99 ⟨g21.1, Or.inl g21.2⟩ (aFv_i rfl) ?_
  refine w_ishl dX7_add_55 ?_
  refine w_ior dX7_add_56 ?_
  replace h := e_grd h; obtain ⟨b25, h⟩ := h
  refine w_iastore dX7_add_57 ⟨rfl, Or.inr ⟨rfl, by decide⟩⟩ b25 ?_
  refine w_iload_n 0 dX7_add_58 rfl rfl ?_
  refine w_if_eq 84 dX7_add_59 (by decide) (fun c26 => ?_) (fun c26 => ?_)
  · replace h := e_t c26 h
    refine w_sub [1, 2, 3, 0] rfl ?_
    exact l_X7_add_84 _ _ _ _ _ h
  · replace h := e_f c26 h
    refine w_aload_n 2 ((some (x1))) dX7_add_62 rfl rfl ?_
    refine w_get dX7_add_63 fl_RX7_69 ⟨g21.1, Or.inl g21.2⟩ (aFv_i rfl) ?_
    refine w_aload_n 3 ((some (x2))) dX7_add_66 rfl rfl ?_
    replace h := e_grd h; obtain ⟨g27, h⟩ := h
    refine w_get dX7_add_67 fl_RX7_69 ⟨g27.1, Or.inl g27.2⟩ (aFv_i rfl) ?_
    refine w_icmp_ne 84 dX7_add_70 (by decide) (fun c28 => ?_) (fun c28 => ?_)
    · replace h := e_f c28 h
      refine w_sub [1, 2, 3, 0] rfl ?_
      exact l_X7_add_84 _ _ _ _ _ h
    · replace h := e_t c28 h
      refine w_aload_n 1 ((some (20))) dX7_add_73 rfl rfl ?_
      refine w_get (v := va_rf (some 21)) dX7_add_74 fl_RX7_11 ⟨rfl, Or.inr ⟨rfl, by decide⟩⟩ (aFv_k rfl) ?_
      refine w_bipush (v := 9) dX7_add_77 (by decide) ?_
      refine w_dup2 dX7_add_79 rfl (aRf_cat _) ?_
      refine w_iaload dX7_add_80 ⟨rfl, Or.inr ⟨rfl, by decide⟩⟩ (by decide) ?_
      refine w_iconst (v := 1) dX7_add_81 (by decide) ?_
      refine w_iadd dX7_add_82 ?_
      refine w_iastore dX7_add_83 ⟨rfl, Or.inr ⟨rfl, by decide⟩⟩ (by decide) ?_
      refine w_sub [1, 2, 3, 0] rfl ?_
      exact l_X7_add_84 _ _ _ _ _ h
set_option maxRecDepth 100000 in
set_option maxHeartbeats 4000000 in
theorem c_X7_add (p1 : Nat) (p2 : Nat) (σ : aSt) (o : Unit × aSt) (h : f_X7_add p1 p2 σ = some o) : AM true m_X7_add [va_rf (some (20)), va_rf (some (p1)), va_rf (some (p2))] σ none o.2 := by
  refine AM_of2 (lv := [(0, va_rf (some (20))), (1, va_rf (some (p1))), (2, va_rf (some (p2)))]) (by decide +kernel) rfl (Nat.le_of_ble_eq_true rfl) ?_
  unfold f_X7_add at h
  refine w_aload_n 1 ((some (p1))) dX7_add_0 rfl rfl ?_
  replace h := e_grd h; obtain ⟨g1, h⟩ := h
  refine w_get dX7_add_1 fl_RX7_56 ⟨g1.1, Or.inl g1.2⟩ (aFv_i rfl) ?_
  refine w_aload_n 2 ((some (p2))) dX7_add_4 rfl rfl ?_
  replace h := e_grd h; obtain ⟨g2, h⟩ := h
  refine w_get dX7_add_5 fl_RX7_56 ⟨g2.1, Or.inl g2.2⟩ (aFv_i rfl) ?_
  refine w_aload_n 0 ((some (20))) dX7_add_8 rfl rfl ?_
  refine w_get dX7_add_9 fl_RX7_28 ⟨rfl, Or.inr ⟨rfl, by decide⟩⟩ (aFv_i rfl) ?_
  refine w_isub dX7_add_12 ?_
  refine w_icmp_le 20 dX7_add_13 (by decide) (fun c3 => ?_) (fun c3 => ?_)
  · replace h := e_t c3 h
    refine w_iconst (v := 0) dX7_add_20 (by decide) ?_
    exact l_X7_add_21 _ _ _ _ _ h
  · replace h := e_f c3 h
    refine w_iconst (v := 1) dX7_add_16 (by decide) ?_
    refine w_goto 21 dX7_add_17 (by decide) ?_
    exact l_X7_add_21 _ _ _ _ _ h
theorem dJ6_bitCount_0f7a4_0 : decode cJ6_bitCount_0f7a4 0 = .ok (.iload_n 0, 1) := by decide +kernel
theorem dJ6_bitCount_0f7a4_1 : decode cJ6_bitCount_0f7a4 1 = .ok (.iload_n 0, 1) := by decide +kernel
theorem dJ6_bitCount_0f7a4_2 : decode cJ6_bitCount_0f7a4 2 = .ok (.iconst 1, 1) := by decide +kernel
theorem dJ6_bitCount_0f7a4_3 : decode cJ6_bitCount_0f7a4 3 = .ok (.iushr, 1) := by decide +kernel
theorem dJ6_bitCount_0f7a4_4 : decode cJ6_bitCount_0f7a4 4 = .ok (.ldc_w 265, 3) := by decide +kernel
theorem dJ6_bitCount_0f7a4_7 : decode cJ6_bitCount_0f7a4 7 = .ok (.iand, 1) := by decide +kernel
theorem dJ6_bitCount_0f7a4_8 : decode cJ6_bitCount_0f7a4 8 = .ok (.isub, 1) := by decide +kernel
theorem dJ6_bitCount_0f7a4_9 : decode cJ6_bitCount_0f7a4 9 = .ok (.istore_n 0, 1) := by decide +kernel
theorem dJ6_bitCount_0f7a4_10 : decode cJ6_bitCount_0f7a4 10 = .ok (.iload_n 0, 1) := by decide +kernel
theorem dJ6_bitCount_0f7a4_11 : decode cJ6_bitCount_0f7a4 11 = .ok (.ldc_w 266, 3) := by decide +kernel
theorem dJ6_bitCount_0f7a4_14 : decode cJ6_bitCount_0f7a4 14 = .ok (.iand, 1) := by decide +kernel
theorem dJ6_bitCount_0f7a4_15 : decode cJ6_bitCount_0f7a4 15 = .ok (.iload_n 0, 1) := by decide +kernel
theorem dJ6_bitCount_0f7a4_16 : decode cJ6_bitCount_0f7a4 16 = .ok (.iconst 2, 1) := by decide +kernel
theorem dJ6_bitCount_0f7a4_17 : decode cJ6_bitCount_0f7a4 17 = .ok (.iushr, 1) := by decide +kernel
theorem dJ6_bitCount_0f7a4_18 : decode cJ6_bitCount_0f7a4 18 = .ok (.ldc_w 266, 3) := by decide +kernel
theorem dJ6_bitCount_0f7a4_21 : decode cJ6_bitCount_0f7a4 21 = .ok (.iand, 1) := by decide +kernel
theorem dJ6_bitCount_0f7a4_22 : decode cJ6_bitCount_0f7a4 22 = .ok (.iadd, 1) := by decide +kernel
theorem dJ6_bitCount_0f7a4_23 : decode cJ6_bitCount_0f7a4 23 = .ok (.istore_n 0, 1) := by decide +kernel
theorem dJ6_bitCount_0f7a4_24 : decode cJ6_bitCount_0f7a4 24 = .ok (.iload_n 0, 1) := by decide +kernel
theorem dJ6_bitCount_0f7a4_25 : decode cJ6_bitCount_0f7a4 25 = .ok (.iload_n 0, 1) := by decide +kernel
theorem dJ6_bitCount_0f7a4_26 : decode cJ6_bitCount_0f7a4 26 = .ok (.iconst 4, 1) := by decide +kernel
theorem dJ6_bitCount_0f7a4_27 : decode cJ6_bitCount_0f7a4 27 = .ok (.iushr, 1) := by decide +kernel
theorem dJ6_bitCount_0f7a4_28 : decode cJ6_bitCount_0f7a4 28 = .ok (.iadd, 1) := by decide +kernel
theorem dJ6_bitCount_0f7a4_29 : decode cJ6_bitCount_0f7a4 29 = .ok (.ldc_w 267, 3) := by decide +kernel
theorem dJ6_bitCount_0f7a4_32 : decode cJ6_bitCount_0f7a4 32 = .ok (.iand, 1) := by decide +kernel
theorem dJ6_bitCount_0f7a4_33 : decode cJ6_bitCount_0f7a4 33 = .ok (.istore_n 0, 1) := by decide +kernel
theorem dJ6_bitCount_0f7a4_34 : decode cJ6_bitCount_0f7a4 34 = .ok (.iload_n 0, 1) := by decide +kernel
theorem dJ6_bitCount_0f7a4_35 : decode cJ6_bitCount_0f7a4 35 = .ok (.iload_n 0, 1) := by decide +kernel
theorem dJ6_bitCount_0f7a4_36 : decode cJ6_bitCount_0f7a4 36 = .ok (.bipush 8, 2) := by decide +kernel
theorem dJ6_bitCount_0f7a4_38 : decode cJ6_bitCount_0f7a4 38 = .ok (.iushr, 1) := by decide +kernel
theorem dJ6_bitCount_0f7a4_39 : decode cJ6_bitCount_0f7a4 39 = .ok (.iadd, 1) := by decide +kernel
theorem dJ6_bitCount_0f7a4_40 : decode cJ6_bitCount_0f7a4 40 = .ok (.istore_n 0, 1) := by decide +kernel
theorem dJ6_bitCount_0f7a4_41 : decode cJ6_bitCount_0f7a4 41 = .ok (.iload_n 0, 1) := by decide +kernel
theorem dJ6_bitCount_0f7a4_42 : decode cJ6_bitCount_0f7a4 42 = .ok (.iload_n 0, 1) := by decide +kernel
theorem dJ6_bitCount_0f7a4_43 : decode cJ6_bitCount_0f7a4 43 = .ok (.bipush 16, 2) := by decide +kernel
theorem dJ6_bitCount_0f7a4_45 : decode cJ6_bitCount_0f7a4 45 = .ok (.iushr, 1) := by decide +kernel
theorem dJ6_bitCount_0f7a4_46 : decode cJ6_bitCount_0f7a4 46 = .ok (.iadd, 1) := by decide +kernel
theorem dJ6_bitCount_0f7a4_47 : decode cJ6_bitCount_0f7a4 47 = .ok (.istore_n 0, 1) := by decide +kernel
theorem dJ6_bitCount_0f7a4_48 : decode cJ6_bitCount_0f7a4 48 = .ok (.iload_n 0, 1) := by decide +kernel
theorem dJ6_bitCount_0f7a4_49 : decode cJ6_bitCount_0f7a4 49 = .ok (.bipush 63, 2) := by decide +kernel
theorem dJ6_bitCount_0f7a4_51 : decode cJ6_bitCount_0f7a4 51 = .ok (.iand, 1) := by decide +kernel
theorem dJ6_bitCount_0f7a4_52 : decode cJ6_bitCount_0f7a4 52 = .ok (.ireturn, 1) := by decide +kernel
theorem kd_J6_bitCount_0f7a4 : aKd m_J6_bitCount_0f7a4 1 := ⟨wd_20_1, wd_20_0, ⟨by decide +kernel, by decide +kernel, by decide +kernel⟩⟩
set_option maxRecDepth 100000 in
set_option maxHeartbeats 4000000 in
theorem c_J6_bitCount_0f7a4 (p0 : Int32) (σ : aSt) (o : Int32 × aSt) (h : f_J6_bitCount_0f7a4 p0 σ = some o) : AM true m_J6_bitCount_0f7a4 [.int (p0)] σ (some (.int o.1)) o.2 := by
  refine AM_of2 (lv := [(0, Value.int (p0))]) (by decide +kernel) rfl (Nat.le_of_ble_eq_true rfl) ?_
  unfold f_J6_bitCount_0f7a4 at h
  refine w_iload_n 0 dJ6_bitCount_0f7a4_0 rfl rfl ?_
  refine w_iload_n 0 dJ6_bitCount_0f7a4_1 rfl rfl ?_
  refine w_iconst (v := 1) dJ6_bitCount_0f7a4_2 (by decide) ?_
  refine w_iushr dJ6_bitCount_0f7a4_3 ?_
  refine w_ldcw (v := 1431655765) dJ6_bitCount_0f7a4_4 wd_20_2 ?_
  refine w_iand dJ6_bitCount_0f7a4_7 ?_
  refine w_isub dJ6_bitCount_0f7a4_8 ?_
  refine w_istore_n dJ6_bitCount_0f7a4_9 rfl (by decide) rfl ?_
  refine w_iload_n 0 dJ6_bitCount_0f7a4_10 rfl rfl ?_
  refine w_ldcw (v := 858993459) dJ6_bitCount_0f7a4_11 wd_20_3 ?_
  refine w_iand dJ6_bitCount_0f7a4_14 ?_
  refine w_iload_n 0 dJ6_bitCount_0f7a4_15 rfl rfl ?_
  refine w_iconst (v := 2) dJ6_bitCount_0f7a4_16 (by decide) ?_
  refine w_iushr dJ6_bitCount_0f7a4_17 ?_
  refine w_ldcw (v := 858993459) dJ6_bitCount_0f7a4_18 wd_20_3 ?_
  refine w_iand dJ6_bitCount_0f7a4_21 ?_
  refine w_iadd dJ6_bitCount_0f7a4_22 ?_
  refine w_istore_n dJ6_bitCount_0f7a4_23 rfl (by decide) rfl ?_
  refine w_iload_n 0 dJ6_bitCount_0f7a4_24 rfl rfl ?_
  refine w_iload_n 0 dJ6_bitCount_0f7a4_25 rfl rfl ?_
  refine w_iconst (v := 4) dJ6_bitCount_0f7a4_26 (by decide) ?_
  refine w_iushr dJ6_bitCount_0f7a4_27 ?_
  refine w_iadd dJ6_bitCount_0f7a4_28 ?_
  refine w_ldcw (v := 252645135) dJ6_bitCount_0f7a4_29 wd_20_4 ?_
  refine w_iand dJ6_bitCount_0f7a4_32 ?_
  refine w_istore_n dJ6_bitCount_0f7a4_33 rfl (by decide) rfl ?_
  refine w_iload_n 0 dJ6_bitCount_0f7a4_34 rfl rfl ?_
  refine w_iload_n 0 dJ6_bitCount_0f7a4_35 rfl rfl ?_
  refine w_bipush (v := 8) dJ6_bitCount_0f7a4_36 (by decide) ?_
  refine w_iushr dJ6_bitCount_0f7a4_38 ?_
  refine w_iadd dJ6_bitCount_0f7a4_39 ?_
  refine w_istore_n dJ6_bitCount_0f7a4_40 rfl (by decide) rfl ?_
  refine w_iload_n 0 dJ6_bitCount_0f7a4_41 rfl rfl ?_
  refine w_iload_n 0 dJ6_bitCount_0f7a4_42 rfl rfl ?_
  refine w_bipush (v := 16) dJ6_bitCount_0f7a4_43 (by decide) ?_
  refine w_iushr dJ6_bitCount_0f7a4_45 ?_
  refine w_iadd dJ6_bitCount_0f7a4_46 ?_
  refine w_istore_n dJ6_bitCount_0f7a4_47 rfl (by decide) rfl ?_
  refine w_iload_n 0 dJ6_bitCount_0f7a4_48 rfl rfl ?_
  refine w_bipush (v := 63) dJ6_bitCount_0f7a4_49 (by decide) ?_
  refine w_iand dJ6_bitCount_0f7a4_51 ?_
  obtain rfl := Option.some.inj h
  exact w_ireturn dJ6_bitCount_0f7a4_52 rfl (Nat.le_of_ble_eq_true rfl) (Nat.le_of_ble_eq_true rfl)
theorem dX7_linkedTo_0 : decode cX7_linkedTo 0 = .ok (.iconst 0, 1) := by decide +kernel
theorem dX7_linkedTo_1 : decode cX7_linkedTo 1 = .ok (.istore_n 2, 1) := by decide +kernel
theorem dX7_linkedTo_2 : decode cX7_linkedTo 2 = .ok (.iconst 0, 1) := by decide +kernel
theorem dX7_linkedTo_3 : decode cX7_linkedTo 3 = .ok (.istore_n 3, 1) := by decide +kernel
theorem dX7_linkedTo_4 : decode cX7_linkedTo 4 = .ok (.iload_n 3, 1) := by decide +kernel
theorem dX7_linkedTo_5 : decode cX7_linkedTo 5 = .ok (.bipush 20, 2) := by decide +kernel
theorem dX7_linkedTo_7 : decode cX7_linkedTo 7 = .ok (.if_icmp .ge 27, 3) := by decide +kernel
theorem dX7_linkedTo_10 : decode cX7_linkedTo 10 = .ok (.iload_n 1, 1) := by decide +kernel
theorem dX7_linkedTo_11 : decode cX7_linkedTo 11 = .ok (.iload_n 3, 1) := by decide +kernel
theorem dX7_linkedTo_12 : decode cX7_linkedTo 12 = .ok (.ishr, 1) := by decide +kernel
theorem dX7_linkedTo_13 : decode cX7_linkedTo 13 = .ok (.iconst 1, 1) := by decide +kernel
theorem dX7_linkedTo_14 : decode cX7_linkedTo 14 = .ok (.iand, 1) := by decide +kernel
theorem dX7_linkedTo_15 : decode cX7_linkedTo 15 = .ok (.iconst 1, 1) := by decide +kernel
theorem dX7_linkedTo_16 : decode cX7_linkedTo 16 = .ok (.if_icmp .ne 12, 3) := by decide +kernel
theorem dX7_linkedTo_19 : decode cX7_linkedTo 19 = .ok (.iload_n 2, 1) := by decide +kernel
theorem dX7_linkedTo_20 : decode cX7_linkedTo 20 = .ok (.aload_n 0, 1) := by decide +kernel
theorem dX7_linkedTo_21 : decode cX7_linkedTo 21 = .ok (.getfield 19, 3) := by decide +kernel
theorem dX7_linkedTo_24 : decode cX7_linkedTo 24 = .ok (.iload_n 3, 1) := by decide +kernel
theorem dX7_linkedTo_25 : decode cX7_linkedTo 25 = .ok (.iaload, 1) := by decide +kernel
theorem dX7_linkedTo_26 : decode cX7_linkedTo 26 = .ok (.ior, 1) := by decide +kernel
theorem dX7_linkedTo_27 : decode cX7_linkedTo 27 = .ok (.istore_n 2, 1) := by decide +kernel
theorem dX7_linkedTo_28 : decode cX7_linkedTo 28 = .ok (.iinc 3 1, 3) := by decide +kernel
theorem dX7_linkedTo_31 : decode cX7_linkedTo 31 = .ok (.goto (-27), 3) := by decide +kernel
theorem dX7_linkedTo_34 : decode cX7_linkedTo 34 = .ok (.iload_n 2, 1) := by decide +kernel
theorem dX7_linkedTo_35 : decode cX7_linkedTo 35 = .ok (.ireturn, 1) := by decide +kernel
theorem kd_X7_linkedTo : aKd m_X7_linkedTo 1 := ⟨wd_20_12, wd_4_20, ⟨by decide +kernel, by decide +kernel, by decide +kernel⟩⟩
set_option maxRecDepth 100000 in
set_option maxHeartbeats 4000000 in
theorem l_X7_linkedTo_28 (rec4 : Int32 → Int32 → Int32 → aSt → Option (Int32 × aSt)) (hrec4 : ∀ (x1 : Int32) (x2 : Int32) (x3 : Int32) (σ : aSt) (o : Int32 × aSt), rec4 x1 x2 x3 σ = some o → AW true m_X7_linkedTo 4 [(0, va_rf (some (20))), (1, Value.int (x1)), (2, Value.int (x2)), (3, Value.int (x3))] [] σ 0 0 (some (.int o.1)) o.2) (x1 : Int32) (x2 : Int32) (x3 : Int32) (σ : aSt) (o : Int32 × aSt) (h : f_X7_linkedTo_28 rec4 x1 x2 x3 σ = some o) : AW true m_X7_linkedTo 28 [(0, va_rf (some (20))), (1, Value.int (x1)), (2, Value.int (x2)), (3, Value.int (x3))] [] σ 0 0 (some (.int o.1)) o.2 := by
  unfold f_X7_linkedTo_28 at h
  refine w_iinc (q := 3) (v := x3 + 1) dX7_linkedTo_28 rfl rfl (by decide) rfl ?_
  refine w_goto 4 dX7_linkedTo_31 (by decide) ?_
  refine w_sub [1, 2, 3, 0] rfl ?_
  exact hrec4 _ _ _ _ _ h
set_option maxRecDepth 100000 in
set_option maxHeartbeats 4000000 in
theorem l_X7_linkedTo_4_b (rec4 : Int32 → Int32 → Int32 → aSt → Option (Int32 × aSt)) (hrec4 : ∀ (x1 : Int32) (x2 : Int32) (x3 : Int32) (σ : aSt) (o : Int32 × aSt), rec4 x1 x2 x3 σ = some o → AW true m_X7_linkedTo 4 [(0, va_rf (some (20))), (1, Value.int (x1)), (2, Value.int (x2)), (3, Value.int (x3))] [] σ 0 0 (some (.int o.1)) o.2) (x1 : Int32) (x2 : Int32) (x3 : Int32) (σ : aSt) (o : Int32 × aSt) (h : f_X7_linkedTo_4_b rec4 x1 x2 x3 σ = some o) : AW true m_X7_linkedTo 4 [(0, va_rf (some (20))), (1, Value.int (x1)), (2, Value.int (x2)), (3, Value.int (x3))] [] σ 0 0 (some (.int o.1)) o.2 := by
  unfold f_X7_linkedTo_4_b at h
  refine w_iload_n 3 dX7_linkedTo_4 rfl rfl ?_
  refine w_bipush (v := 20) dX7_linkedTo_5 (by decide) ?_
  refine w_icmp_ge 34 dX7_linkedTo_7 (by decide) (fun c1 => ?_) (fun c1 => ?_)
  · replace h := e_t c1 h
    refine w_iload_n 2 dX7_linkedTo_34 rfl rfl ?_
    obtain rfl := Option.some.inj h
    exact w_ireturn dX7_linkedTo_35 rfl (Nat.le_of_ble_eq_true rfl) (Nat.le_of_ble_eq_true rfl)
  · replace h := e_f c1 h
    refine w_iload_n 1 dX7_linkedTo_10 rfl rfl ?_
    refine w_iload_n 3 dX7_linkedTo_11 rfl rfl ?_
    refine w_ishr dX7_linkedTo_12 ?_
    refine w_iconst (v := 1) dX7_linkedTo_13 (by decide) ?_
    refine w_iand dX7_linkedTo_14 ?_
    refine w_iconst (v := 1) dX7_linkedTo_15 (by decide) ?_
    refine w_icmp_ne 28 dX7_linkedTo_16 (by decide) (fun c2 => ?_) (fun c2 => ?_)
    · replace h := e_f c2 h
      exact l_X7_linkedTo_28 rec4 hrec4 _ _ _ _ _ h
    · replace h := e_t c2 h
      refine w_iload_n 2 dX7_linkedTo_19 rfl rfl ?_
      refine w_aload_n 0 ((some (20))) dX7_linkedTo_20 rfl rfl ?_
      refine w_get (v := va_rf (some 22)) dX7_linkedTo_21 fl_RX7_19 ⟨rfl, Or.inr ⟨rfl, by decide⟩⟩ (aFv_k rfl) ?_
      refine w_iload_n 3 dX7_linkedTo_24 rfl rfl ?_
      replace h := e_grd h; obtain ⟨b3, h⟩ := h
      refine w_iaload dX7_linkedTo_25 ⟨rfl, Or.inr ⟨rfl, by decide⟩⟩ b3 ?_
      refine w_ior dX7_linkedTo_26 ?_
      refine w_istore_n dX7_linkedTo_27 rfl (by decide) rfl ?_
      refine w_sub [1, 2, 0, 3] rfl ?_
      exact l_X7_linkedTo_28 rec4 hrec4 _ _ _ _ _ h
theorem l_X7_linkedTo_4  : ∀ (n : Nat) (x1 : Int32) (x2 : Int32) (x3 : Int32) (σ : aSt) (o : Int32 × aSt), f_X7_linkedTo_4  n x1 x2 x3 σ = some o → AW true m_X7_linkedTo 4 [(0, va_rf (some (20))), (1, Value.int (x1)), (2, Value.int (x2)), (3, Value.int (x3))] [] σ 0 0 (some (.int o.1)) o.2
  | 0 => fun x1 x2 x3 σ o h => by cases h
  | n + 1 => fun x1 x2 x3 σ o h => l_X7_linkedTo_4_b (f_X7_linkedTo_4  n) (l_X7_linkedTo_4  n) x1 x2 x3 σ o h
set_option maxRecDepth 100000 in
set_option maxHeartbeats 4000000 in
theorem c_X7_linkedTo (p1 : Int32) (σ : aSt) (o : Int32 × aSt) (h : f_X7_linkedTo p1 σ = some o) : AM true m_X7_linkedTo [va_rf (some (20)), .int (p1)] σ (some (.int o.1)) o.2 := by
  refine AM_of2 (lv := [(0, va_rf (some (20))), (1, Value.int (p1))]) (by decide +kernel) rfl (Nat.le_of_ble_eq_true rfl) ?_
  unfold f_X7_linkedTo at h
  refine w_iconst (v := 0) dX7_linkedTo_0 (by decide) ?_
  refine w_istore_n dX7_linkedTo_1 rfl (by decide) rfl ?_
  refine w_iconst (v := 0) dX7_linkedTo_2 (by decide) ?_
  refine w_istore_n dX7_linkedTo_3 rfl (by decide) rfl ?_
  refine w_sub [2, 3, 1, 0] rfl ?_
  exact l_X7_linkedTo_4 aN _ _ _ _ _ h
theorem dX7_far_0 : decode cX7_far 0 = .ok (.iconst 1, 1) := by decide +kernel
theorem dX7_far_1 : decode cX7_far 1 = .ok (.iload_n 1, 1) := by decide +kernel
theorem dX7_far_2 : decode cX7_far 2 = .ok (.ishl, 1) := by decide +kernel
theorem dX7_far_3 : decode cX7_far 3 = .ok (.istore_n 3, 1) := by decide +kernel
theorem dX7_far_4 : decode cX7_far 4 = .ok (.iconst 0, 1) := by decide +kernel
theorem dX7_far_5 : decode cX7_far 5 = .ok (.istore 4, 2) := by decide +kernel
theorem dX7_far_7 : decode cX7_far 7 = .ok (.iload 4, 2) := by decide +kernel
theorem dX7_far_9 : decode cX7_far 9 = .ok (.bipush 8, 2) := by decide +kernel
theorem dX7_far_11 : decode cX7_far 11 = .ok (.if_icmp .gt 26, 3) := by decide +kernel
theorem dX7_far_14 : decode cX7_far 14 = .ok (.iload_n 3, 1) := by decide +kernel
theorem dX7_far_15 : decode cX7_far 15 = .ok (.iload_n 2, 1) := by decide +kernel
theorem dX7_far_16 : decode cX7_far 16 = .ok (.iand, 1) := by decide +kernel
theorem dX7_far_17 : decode cX7_far 17 = .ok (.ifCond .eq 6, 3) := by decide +kernel
theorem dX7_far_20 : decode cX7_far 20 = .ok (.iload 4, 2) := by decide +kernel
theorem dX7_far_22 : decode cX7_far 22 = .ok (.ireturn, 1) := by decide +kernel
theorem dX7_far_23 : decode cX7_far 23 = .ok (.iload_n 3, 1) := by decide +kernel
theorem dX7_far_24 : decode cX7_far 24 = .ok (.aload_n 0, 1) := by decide +kernel
theorem dX7_far_25 : decode cX7_far 25 = .ok (.iload_n 3, 1) := by decide +kernel
theorem dX7_far_26 : decode cX7_far 26 = .ok (.invokevirtual 102, 3) := by decide +kernel
theorem dX7_far_29 : decode cX7_far 29 = .ok (.ior, 1) := by decide +kernel
theorem dX7_far_30 : decode cX7_far 30 = .ok (.istore_n 3, 1) := by decide +kernel
theorem dX7_far_31 : decode cX7_far 31 = .ok (.iinc 4 1, 3) := by decide +kernel
theorem dX7_far_34 : decode cX7_far 34 = .ok (.goto (-27), 3) := by decide +kernel
theorem dX7_far_37 : decode cX7_far 37 = .ok (.bipush 9, 2) := by decide +kernel
theorem dX7_far_39 : decode cX7_far 39 = .ok (.ireturn, 1) := by decide +kernel
theorem kd_X7_far : aKd m_X7_far 2 := ⟨wd_20_8, wd_4_20, ⟨by decide +kernel, by decide +kernel, by decide +kernel⟩⟩
set_option maxRecDepth 100000 in
set_option maxHeartbeats 4000000 in
theorem l_X7_far_7_b (rec7 : Int32 → Int32 → Int32 → aSt → Option (Int32 × aSt)) (hrec7 : ∀ (x2 : Int32) (x3 : Int32) (x4 : Int32) (σ : aSt) (o : Int32 × aSt), rec7 x2 x3 x4 σ = some o → AW true m_X7_far 7 [(0, va_rf (some (20))), (2, Value.int (x2)), (3, Value.int (x3)), (4, Value.int (x4))] [] σ 0 0 (some (.int o.1)) o.2) (x2 : Int32) (x3 : Int32) (x4 : Int32) (σ : aSt) (o : Int32 × aSt) (h : f_X7_far_7_b rec7 x2 x3 x4 σ = some o) : AW true m_X7_far 7 [(0, va_rf (some (20))), (2, Value.int (x2)), (3, Value.int (x3)), (4, Value.int (x4))] [] σ 0 0 (some (.int o.1)) o.2 := by
  unfold f_X7_far_7_b at h
  refine w_iload 3 dX7_far_7 rfl ?_
  refine w_bipush (v := 8) dX7_far_9 (by decide) ?_
  refine w_icmp_gt 37 dX7_far_11 (by decide) (fun c1 => ?_) (fun c1 => ?_)
  · replace h := e_t c1 h
    refine w_bipush (v := 9) dX7_far_37 (by decide) ?_
    obtain rfl := Option.some.inj h
    exact w_ireturn dX7_far_39 rfl (Nat.le_of_ble_eq_true rfl) (Nat.le_of_ble_eq_true rfl)
  · replace h := e_f c1 h
    refine w_iload_n 2 dX7_far_14 rfl rfl ?_
    refine w_iload_n 1 dX7_far_15 rfl rfl ?_
    refine w_iand dX7_far_16 ?_
    refine w_if_eq 23 dX7_far_17 (by decide) (fun c2 => ?_) (fun c2 => ?_)
    · replace h := e_t c2 h
      refine w_iload_n 2 dX7_far_23 rfl rfl ?_
      refine w_aload_n 0 ((some (20))) dX7_far_24 rfl rfl ?_
      refine w_iload_n 2 dX7_far_25 rfl rfl ?_
      replace h := e_bind h; obtain ⟨q3, e4, h⟩ := h
      refine w_callV1 (M2 := m_X7_linkedTo) (av := [.int (x3)]) (ci := 7) (c_X7_linkedTo _ _ _ e4) dX7_far_26 kd_X7_linkedTo wd_20_9 wd_20_10 wd_20_11 rfl rfl ⟨rfl, Or.inr ⟨rfl, by decide⟩⟩ rfl ⟨Nat.le_of_ble_eq_true rfl, Nat.le_of_ble_eq_true rfl, Nat.le_of_ble_eq_true rfl, Nat.le_of_ble_eq_true rfl⟩ (Nat.le_of_ble_eq_true rfl) ?_
      refine w_ior dX7_far_29 ?_
      refine w_istore_n dX7_far_30 rfl (by decide) rfl ?_
      refine w_iinc (q := 3) (v := x4 + 1) dX7_far_31 rfl rfl (by decide) rfl ?_
      refine w_goto 7 dX7_far_34 (by decide) ?_
      refine w_sub [2, 3, 1, 0] rfl ?_
      exact hrec7 _ _ _ _ _ h
    · replace h := e_f c2 h
      refine w_iload 3 dX7_far_20 rfl ?_
      obtain rfl := Option.some.inj h
      exact w_ireturn dX7_far_22 rfl (Nat.le_of_ble_eq_true rfl) (Nat.le_of_ble_eq_true rfl)
theorem l_X7_far_7  : ∀ (n : Nat) (x2 : Int32) (x3 : Int32) (x4 : Int32) (σ : aSt) (o : Int32 × aSt), f_X7_far_7  n x2 x3 x4 σ = some o → AW true m_X7_far 7 [(0, va_rf (some (20))), (2, Value.int (x2)), (3, Value.int (x3)), (4, Value.int (x4))] [] σ 0 0 (some (.int o.1)) o.2
  | 0 => fun x2 x3 x4 σ o h => by cases h
  | n + 1 => fun x2 x3 x4 σ o h => l_X7_far_7_b (f_X7_far_7  n) (l_X7_far_7  n) x2 x3 x4 σ o h
set_option maxRecDepth 100000 in
set_option maxHeartbeats 4000000 in
theorem c_X7_far (p1 : Int32) (p2 : Int32) (σ : aSt) (o : Int32 × aSt) (h : f_X7_far p1 p2 σ = some o) : AM true m_X7_far [va_rf (some (20)), .int (p1), .int (p2)] σ (some (.int o.1)) o.2 := by
  refine AM_of2 (lv := [(0, va_rf (some (20))), (1, Value.int (p1)), (2, Value.int (p2))]) (by decide +kernel) rfl (Nat.le_of_ble_eq_true rfl) ?_
  unfold f_X7_far at h
  refine w_iconst (v := 1) dX7_far_0 (by decide) ?_
  refine w_iload_n 1 dX7_far_1 rfl rfl ?_
  refine w_ishl dX7_far_2 ?_
  refine w_istore_n dX7_far_3 rfl (by decide) rfl ?_
  refine w_iconst (v := 0) dX7_far_4 (by decide) ?_
  refine w_istore dX7_far_5 (by decide) rfl ?_
  refine w_sub [2, 4, 1, 0] rfl ?_
  exact l_X7_far_7 aN _ _ _ _ _ h
theorem dX7_takeAmount_0 : decode cX7_takeAmount 0 = .ok (.aload_n 0, 1) := by decide +kernel
theorem dX7_takeAmount_1 : decode cX7_takeAmount 1 = .ok (.getfield 15, 3) := by decide +kernel
theorem dX7_takeAmount_4 : decode cX7_takeAmount 4 = .ok (.iconst 1, 1) := by decide +kernel
theorem dX7_takeAmount_5 : decode cX7_takeAmount 5 = .ok (.iadd, 1) := by decide +kernel
theorem dX7_takeAmount_6 : decode cX7_takeAmount 6 = .ok (.istore_n 2, 1) := by decide +kernel
theorem dX7_takeAmount_7 : decode cX7_takeAmount 7 = .ok (.aload_n 0, 1) := by decide +kernel
theorem dX7_takeAmount_8 : decode cX7_takeAmount 8 = .ok (.getfield 11, 3) := by decide +kernel
theorem dX7_takeAmount_11 : decode cX7_takeAmount 11 = .ok (.iconst 0, 1) := by decide +kernel
theorem dX7_takeAmount_12 : decode cX7_takeAmount 12 = .ok (.iload_n 1, 1) := by decide +kernel
theorem dX7_takeAmount_13 : decode cX7_takeAmount 13 = .ok (.iastore, 1) := by decide +kernel
theorem dX7_takeAmount_14 : decode cX7_takeAmount 14 = .ok (.aload_n 0, 1) := by decide +kernel
theorem dX7_takeAmount_15 : decode cX7_takeAmount 15 = .ok (.getfield 11, 3) := by decide +kernel
theorem dX7_takeAmount_18 : decode cX7_takeAmount 18 = .ok (.bipush 7, 2) := by decide +kernel
theorem dX7_takeAmount_20 : decode cX7_takeAmount 20 = .ok (.iload_n 2, 1) := by decide +kernel
theorem dX7_takeAmount_21 : decode cX7_takeAmount 21 = .ok (.ifCond .le 12, 3) := by decide +kernel
theorem dX7_takeAmount_24 : decode cX7_takeAmount 24 = .ok (.iload_n 1, 1) := by decide +kernel
theorem dX7_takeAmount_25 : decode cX7_takeAmount 25 = .ok (.bipush 100, 2) := by decide +kernel
theorem dX7_takeAmount_27 : decode cX7_takeAmount 27 = .ok (.imul, 1) := by decide +kernel
theorem dX7_takeAmount_28 : decode cX7_takeAmount 28 = .ok (.iload_n 2, 1) := by decide +kernel
theorem dX7_takeAmount_29 : decode cX7_takeAmount 29 = .ok (.idiv, 1) := by decide +kernel
theorem dX7_takeAmount_30 : decode cX7_takeAmount 30 = .ok (.goto 4, 3) := by decide +kernel
theorem dX7_takeAmount_33 : decode cX7_takeAmount 33 = .ok (.iconst 0, 1) := by decide +kernel
theorem dX7_takeAmount_34 : decode cX7_takeAmount 34 = .ok (.iastore, 1) := by decide +kernel
theorem dX7_takeAmount_35 : decode cX7_takeAmount 35 = .ok (.return_, 1) := by decide +kernel
theorem kd_X7_takeAmount : aKd m_X7_takeAmount 1 := ⟨wd_20_16, wd_4_20, ⟨by decide +kernel, by decide +kernel, by decide +kernel⟩⟩
set_option maxRecDepth 100000 in
set_option maxHeartbeats 4000000 in
theorem l_X7_takeAmount_34  (t1 : Int32) (t2 : Int32) (σ : aSt) (o : Unit × aSt) (h : f_X7_takeAmount_34  t1 t2 σ = some o) : AW true m_X7_takeAmount 34 [] [.int (t2), .int (t1), va_rf (some (21))] σ 0 0 none o.2 := by
  unfold f_X7_takeAmount_34 at h
  replace h := e_grd h; obtain ⟨b5, h⟩ := h
  refine w_iastore dX7_takeAmount_34 ⟨rfl, Or.inr ⟨rfl, by decide⟩⟩ b5 ?_
  obtain rfl := Option.some.inj h
  exact w_vreturn dX7_takeAmount_35 rfl (Nat.le_of_ble_eq_true rfl) (Nat.le_of_ble_eq_true rfl)
set_option maxRecDepth 100000 in
set_option maxHeartbeats 4000000 in
theorem c_X7_takeAmount (p0 : Nat) (p1 : Int32) (σ : aSt) (o : Unit × aSt) (h : f_X7_takeAmount p0 p1 σ = some o) : AM true m_X7_takeAmount [va_rf (some (p0)), .int (p1)] σ none o.2 := by
  refine AM_of2 (lv := [(0, va_rf (some (p0))), (1, Value.int (p1))]) (by decide +kernel) rfl (Nat.le_of_ble_eq_true rfl) ?_
  unfold f_X7_takeAmount at h
  refine w_aload_n 0 ((some (p0))) dX7_takeAmount_0 rfl rfl ?_
  replace h := e_grd h; obtain ⟨g1, h⟩ := h
  refine w_get dX7_takeAmount_1 fl_RX7_15 ⟨g1.1, Or.inl g1.2⟩ (aFv_i rfl) ?_
  refine w_iconst (v := 1) dX7_takeAmount_4 (by decide) ?_
  refine w_iadd dX7_takeAmount_5 ?_
  refine w_istore_n dX7_takeAmount_6 rfl (by decide) rfl ?_
  refine w_aload_n 1 ((some (p0))) dX7_takeAmount_7 rfl rfl ?_
  refine w_get (v := va_rf (some 21)) dX7_takeAmount_8 fl_RX7_11 ⟨g1.1, Or.inl g1.2⟩ (aFv_k rfl) ?_
  refine w_iconst (v := 0) dX7_takeAmount_11 (by decide) ?_
  refine w_iload_n 2 dX7_takeAmount_12 rfl rfl ?_
  refine w_iastore dX7_takeAmount_13 ⟨rfl, Or.inr ⟨rfl, by decide⟩⟩ (by decide) ?_
  refine w_aload_n 1 ((some (p0))) dX7_takeAmount_14 rfl rfl ?_
  refine w_get (v := va_rf (some 21)) dX7_takeAmount_15 fl_RX7_11 ⟨g1.1, Or.inl g1.2⟩ (aFv_k rfl) ?_
  refine w_bipush (v := 7) dX7_takeAmount_18 (by decide) ?_
  refine w_iload_n 0 dX7_takeAmount_20 rfl rfl ?_
  refine w_if_le 33 dX7_takeAmount_21 (by decide) (fun c3 => ?_) (fun c3 => ?_)
  · replace h := e_t c3 h
    refine w_iconst (v := 0) dX7_takeAmount_33 (by decide) ?_
    refine w_sub [] rfl ?_
    exact l_X7_takeAmount_34 _ _ _ _ h
  · replace h := e_f c3 h
    refine w_iload_n 2 dX7_takeAmount_24 rfl rfl ?_
    refine w_bipush (v := 100) dX7_takeAmount_25 (by decide) ?_
    refine w_imul dX7_takeAmount_27 ?_
    refine w_iload_n 0 dX7_takeAmount_28 rfl rfl ?_
    replace h := e_grd h; obtain ⟨g4, h⟩ := h
    refine w_idiv dX7_takeAmount_29 g4 ?_
    refine w_goto 34 dX7_takeAmount_30 (by decide) ?_
    refine w_sub [] rfl ?_
    exact l_X7_takeAmount_34 _ _ _ _ h
theorem dX7_gather_0 : decode cX7_gather 0 = .ok (.aload_n 0, 1) := by decide +kernel
theorem dX7_gather_1 : decode cX7_gather 1 = .ok (.aload_n 2, 1) := by decide +kernel
theorem dX7_gather_2 : decode cX7_gather 2 = .ok (.aload 4, 2) := by decide +kernel
theorem dX7_gather_4 : decode cX7_gather 4 = .ok (.invokevirtual 34, 3) := by decide +kernel
theorem dX7_gather_7 : decode cX7_gather 7 = .ok (.iconst 0, 1) := by decide +kernel
theorem dX7_gather_8 : decode cX7_gather 8 = .ok (.istore 5, 2) := by decide +kernel
theorem dX7_gather_10 : decode cX7_gather 10 = .ok (.iload 5, 2) := by decide +kernel
theorem dX7_gather_12 : decode cX7_gather 12 = .ok (.aload_n 1, 1) := by decide +kernel
theorem dX7_gather_13 : decode cX7_gather 13 = .ok (.getfield 38, 3) := by decide +kernel
theorem dX7_gather_16 : decode cX7_gather 16 = .ok (.if_icmp .ge 60, 3) := by decide +kernel
theorem dX7_gather_19 : decode cX7_gather 19 = .ok (.aload_n 1, 1) := by decide +kernel
theorem dX7_gather_20 : decode cX7_gather 20 = .ok (.iload 5, 2) := by decide +kernel
theorem dX7_gather_22 : decode cX7_gather 22 = .ok (.invokevirtual 43, 3) := by decide +kernel
theorem dX7_gather_25 : decode cX7_gather 25 = .ok (.astore 6, 2) := by decide +kernel
theorem dX7_gather_27 : decode cX7_gather 27 = .ok (.aload 6, 2) := by decide +kernel
theorem dX7_gather_29 : decode cX7_gather 29 = .ok (.ifnull 47, 3) := by decide +kernel
theorem dX7_gather_32 : decode cX7_gather 32 = .ok (.aload 6, 2) := by decide +kernel
theorem dX7_gather_34 : decode cX7_gather 34 = .ok (.getfield 47, 3) := by decide +kernel
theorem dX7_gather_37 : decode cX7_gather 37 = .ok (.aload_n 2, 1) := by decide +kernel
theorem dX7_gather_38 : decode cX7_gather 38 = .ok (.getfield 47, 3) := by decide +kernel
theorem dX7_gather_41 : decode cX7_gather 41 = .ok (.if_icmp .ne 6, 3) := by decide +kernel
theorem dX7_gather_44 : decode cX7_gather 44 = .ok (.goto 32, 3) := by decide +kernel
theorem dX7_gather_47 : decode cX7_gather 47 = .ok (.iload_n 3, 1) := by decide +kernel
theorem dX7_gather_48 : decode cX7_gather 48 = .ok (.ifCond .eq 15, 3) := by decide +kernel
theorem dX7_gather_51 : decode cX7_gather 51 = .ok (.aload 6, 2) := by decide +kernel
theorem dX7_gather_53 : decode cX7_gather 53 = .ok (.getfield 47, 3) := by decide +kernel
theorem dX7_gather_56 : decode cX7_gather 56 = .ok (.aload_n 2, 1) := by decide +kernel
theorem dX7_gather_57 : decode cX7_gather 57 = .ok (.getfield 47, 3) := by decide +kernel
theorem dX7_gather_60 : decode cX7_gather 60 = .ok (.if_icmp .ge 10, 3) := by decide +kernel
theorem dX7_gather_63 : decode cX7_gather 63 = .ok (.aload_n 0, 1) := by decide +kernel
theorem dX7_gather_64 : decode cX7_gather 64 = .ok (.aload 6, 2) := by decide +kernel
theorem dX7_gather_66 : decode cX7_gather 66 = .ok (.aload_n 2, 1) := by decide +kernel
theorem dX7_gather_67 : decode cX7_gather 67 = .ok (.invokevirtual 52, 3) := by decide +kernel
theorem dX7_gather_70 : decode cX7_gather 70 = .ok (.iinc 5 1, 3) := by decide +kernel
theorem dX7_gather_73 : decode cX7_gather 73 = .ok (.goto (-63), 3) := by decide +kernel
theorem dX7_gather_76 : decode cX7_gather 76 = .ok (.aload_n 0, 1) := by decide +kernel
theorem dX7_gather_77 : decode cX7_gather 77 = .ok (.aload_n 0, 1) := by decide +kernel
theorem dX7_gather_78 : decode cX7_gather 78 = .ok (.aload_n 0, 1) := by decide +kernel
theorem dX7_gather_79 : decode cX7_gather 79 = .ok (.getfield 15, 3) := by decide +kernel
theorem dX7_gather_82 : decode cX7_gather 82 = .ok (.aload_n 2, 1) := by decide +kernel
theorem dX7_gather_83 : decode cX7_gather 83 = .ok (.getfield 56, 3) := by decide +kernel
theorem dX7_gather_86 : decode cX7_gather 86 = .ok (.aload_n 0, 1) := by decide +kernel
theorem dX7_gather_87 : decode cX7_gather 87 = .ok (.getfield 25, 3) := by decide +kernel
theorem dX7_gather_90 : decode cX7_gather 90 = .ok (.isub, 1) := by decide +kernel
theorem dX7_gather_91 : decode cX7_gather 91 = .ok (.invokevirtual 59, 3) := by decide +kernel
theorem dX7_gather_94 : decode cX7_gather 94 = .ok (.putfield 15, 3) := by decide +kernel
theorem dX7_gather_97 : decode cX7_gather 97 = .ok (.aload_n 0, 1) := by decide +kernel
theorem dX7_gather_98 : decode cX7_gather 98 = .ok (.getfield 11, 3) := by decide +kernel
theorem dX7_gather_101 : decode cX7_gather 101 = .ok (.iconst 5, 1) := by decide +kernel
theorem dX7_gather_102 : decode cX7_gather 102 = .ok (.aload_n 0, 1) := by decide +kernel
theorem dX7_gather_103 : decode cX7_gather 103 = .ok (.getfield 22, 3) := by decide +kernel
theorem dX7_gather_106 : decode cX7_gather 106 = .ok (.invokestatic 63, 3) := by decide +kernel
theorem dX7_gather_109 : decode cX7_gather 109 = .ok (.iastore, 1) := by decide +kernel
theorem dX7_gather_110 : decode cX7_gather 110 = .ok (.aload_n 0, 1) := by decide +kernel
theorem dX7_gather_111 : decode cX7_gather 111 = .ok (.getfield 11, 3) := by decide +kernel
theorem dX7_gather_114 : decode cX7_gather 114 = .ok (.bipush 8, 2) := by decide +kernel
theorem dX7_gather_116 : decode cX7_gather 116 = .ok (.aload_n 0, 1) := by decide +kernel
theorem dX7_gather_117 : decode cX7_gather 117 = .ok (.aload_n 2, 1) := by decide +kernel
theorem dX7_gather_118 : decode cX7_gather 118 = .ok (.getfield 69, 3) := by decide +kernel
theorem dX7_gather_121 : decode cX7_gather 121 = .ok (.aload_n 1, 1) := by decide +kernel
theorem dX7_gather_122 : decode cX7_gather 122 = .ok (.getfield 72, 3) := by decide +kernel
theorem dX7_gather_125 : decode cX7_gather 125 = .ok (.invokevirtual 75, 3) := by decide +kernel
theorem dX7_gather_128 : decode cX7_gather 128 = .ok (.iastore, 1) := by decide +kernel
theorem dX7_gather_129 : decode cX7_gather 129 = .ok (.aload_n 0, 1) := by decide +kernel
theorem dX7_gather_130 : decode cX7_gather 130 = .ok (.aload_n 2, 1) := by decide +kernel
theorem dX7_gather_131 : decode cX7_gather 131 = .ok (.getfield 78, 3) := by decide +kernel
theorem dX7_gather_134 : decode cX7_gather 134 = .ok (.invokevirtual 81, 3) := by decide +kernel
theorem dX7_gather_137 : decode cX7_gather 137 = .ok (.return_, 1) := by decide +kernel
theorem kd_X7_gather : aKd m_X7_gather 4 := ⟨wd_18_22, wd_4_20, ⟨by decide +kernel, by decide +kernel, by decide +kernel⟩⟩
set_option maxRecDepth 100000 in
set_option maxHeartbeats 4000000 in
theorem l_X7_gather_70 (rec10 : Nat → Int32 → Int32 → aSt → Option (Unit × aSt)) (hrec10 : ∀ (x2 : Nat) (x3 : Int32) (x5 : Int32) (σ : aSt) (o : Unit × aSt), rec10 x2 x3 x5 σ = some o → AW true m_X7_gather 10 [(0, va_rf (some (20))), (1, va_rf (some (2))), (2, va_rf (some (x2))), (3, Value.int (x3)), (5, Value.int (x5))] [] σ 0 0 none o.2) (x2 : Nat) (x3 : Int32) (x5 : Int32) (σ : aSt) (o : Unit × aSt) (h : f_X7_gather_70 rec10 x2 x3 x5 σ = some o) : AW true m_X7_gather 70 [(0, va_rf (some (20))), (1, va_rf (some (2))), (2, va_rf (some (x2))), (3, Value.int (x3)), (5, Value.int (x5))] [] σ 0 0 none o.2 := by
  unfold f_X7_gather_70 at h
  refine w_iinc (q := 4) (v := x5 + 1) dX7_gather_70 rfl rfl (by decide) rfl ?_
  refine w_goto 10 dX7_gather_73 (by decide) ?_
  refine w_sub [1, 2, 3, 4, 0] rfl ?_
  exact hrec10 _ _ _ _ _ h
set_option maxRecDepth 100000 in
set_option maxHeartbeats 4000000 in
theorem l_X7_gather_63 (rec10 : Nat → Int32 → Int32 → aSt → Option (Unit × aSt)) (hrec10 : ∀ (x2 : Nat) (x3 : Int32) (x5 : Int32) (σ : aSt) (o : Unit × aSt), rec10 x2 x3 x5 σ = some o → AW true m_X7_gather 10 [(0, va_rf (some (20))), (1, va_rf (some (2))), (2, va_rf (some (x2))), (3, Value.int (x3)), (5, Value.int (x5))] [] σ 0 0 none o.2) (x2 : Nat) (x3 : Int32) (x5 : Int32) (x6 : Nat) (σ : aSt) (o : Unit × aSt) (h : f_X7_gather_63 rec10 x2 x3 x5 x6 σ = some o) : AW true m_X7_gather 63 [(0, va_rf (some (20))), (1, va_rf (some (2))), (2, va_rf (some (x2))), (3, Value.int (x3)), (5, Value.int (x5)), (6, va_rf (some (x6)))] [] σ 0 0 none o.2 := by
  unfold f_X7_gather_63 at h
  refine w_aload_n 0 ((some (20))) dX7_gather_63 rfl rfl ?_
  refine w_aload 5 ((some (x6))) dX7_gather_64 rfl ?_
  refine w_aload_n 2 ((some (x2))) dX7_gather_66 rfl rfl ?_
  replace h := e_bind h; obtain ⟨q16, e17, h⟩ := h
  refine w_callV0 (M2 := m_X7_add) (av := [va_rf (some (x6)), va_rf (some (x2))]) (ci := 7) (c_X7_add _ _ _ _ e17) dX7_gather_67 kd_X7_add wd_19_13 wd_19_14 wd_19_15 rfl rfl ⟨rfl, Or.inr ⟨rfl, by decide⟩⟩ rfl ⟨Nat.le_of_ble_eq_true rfl, Nat.le_of_ble_eq_true rfl, Nat.le_of_ble_eq_true rfl, Nat.le_of_ble_eq_true rfl⟩ (Nat.le_of_ble_eq_true rfl) ?_
  refine w_sub [0, 1, 2, 3, 4] rfl ?_
  exact l_X7_gather_70 rec10 hrec10 _ _ _ _ _ h
set_option maxRecDepth 100000 in
set_option maxHeartbeats 4000000 in
theorem l_X7_gather_76  (x2 : Nat) (σ : aSt) (o : Unit × aSt) (h : f_X7_gather_76  x2 σ = some o) : AW true m_X7_gather 76 [(0, va_rf (some (20))), (1, va_rf (some (2))), (2, va_rf (some (x2)))] [] σ 0 0 none o.2 := by
  unfold f_X7_gather_76 at h
  refine w_aload_n 0 ((some (20))) dX7_gather_76 rfl rfl ?_
  refine w_aload_n 0 ((some (20))) dX7_gather_77 rfl rfl ?_
  refine w_aload_n 0 ((some (20))) dX7_gather_78 rfl rfl ?_
  refine w_get dX7_gather_79 fl_RX7_15 ⟨rfl, Or.inr ⟨rfl, by decide⟩⟩ (aFv_i rfl) ?_
  refine w_aload_n 2 ((some (x2))) dX7_gather_82 rfl rfl ?_
  replace h := e_grd h; obtain ⟨g3, h⟩ := h
  refine w_get dX7_gather_83 fl_RX7_56 ⟨g3.1, Or.inl g3.2⟩ (aFv_i rfl) ?_
  refine w_aload_n 0 ((some (20))) dX7_gather_86 rfl rfl ?_
  refine w_get dX7_gather_87 fl_RX7_25 ⟨rfl, Or.inr ⟨rfl, by decide⟩⟩ (aFv_i rfl) ?_
  refine w_isub dX7_gather_90 ?_
  replace h := e_bind h; obtain ⟨q4, e5, h⟩ := h
  refine w_callV1 (M2 := m_X7_fade) (av := [.int (gI σ 20 1), .int ((gI σ x2 1) - (gI σ 20 4))]) (ci := 7) (c_X7_fade _ _ _ _ e5) dX7_gather_91 kd_X7_fade wd_19_18 wd_19_19 wd_19_20 rfl rfl ⟨rfl, Or.inr ⟨rfl, by decide⟩⟩ rfl ⟨Nat.le_of_ble_eq_true rfl, Nat.le_of_ble_eq_true rfl, Nat.le_of_ble_eq_true rfl, Nat.le_of_ble_eq_true rfl⟩ (Nat.le_of_ble_eq_true rfl) ?_
  refine w_putI dX7_gather_94 fl_RX7_15 (Or.inl rfl) rfl ⟨rfl, Or.inr ⟨rfl, by decide⟩⟩ ?_
  refine w_aload_n 0 ((some (20))) dX7_gather_97 rfl rfl ?_
  refine w_get (v := va_rf (some 21)) dX7_gather_98 fl_RX7_11 ⟨rfl, Or.inr ⟨rfl, by decide⟩⟩ (aFv_k rfl) ?_
  refine w_iconst (v := 5) dX7_gather_101 (by decide) ?_
  refine w_aload_n 0 ((some (20))) dX7_gather_102 rfl rfl ?_
  refine w_get dX7_gather_103 fl_RX7_22 ⟨rfl, Or.inr ⟨rfl, by decide⟩⟩ (aFv_i rfl) ?_
  replace h := e_bind h; obtain ⟨q6, e7, h⟩ := h
  refine w_callS1 (M2 := m_J6_bitCount_0f7a4) (av := [.int (gI (sI q4.2 20 1 (q4.1)) 20 3)]) (c_J6_bitCount_0f7a4 _ _ _ e7) dX7_gather_106 kd_J6_bitCount_0f7a4 wd_19_22 wd_19_23 rfl rfl ⟨Nat.le_of_ble_eq_true rfl, Nat.le_of_ble_eq_true rfl, Nat.le_of_ble_eq_true rfl, Nat.le_of_ble_eq_true rfl⟩ (Nat.le_of_ble_eq_true rfl) ?_
  refine w_iastore dX7_gather_109 ⟨rfl, Or.inr ⟨rfl, by decide⟩⟩ (by decide) ?_
  refine w_aload_n 0 ((some (20))) dX7_gather_110 rfl rfl ?_
  refine w_get (v := va_rf (some 21)) dX7_gather_111 fl_RX7_11 ⟨rfl, Or.inr ⟨rfl, by decide⟩⟩ (aFv_k rfl) ?_
  refine w_bipush (v := 8) dX7_gather_114 (by decide) ?_
  refine w_aload_n 0 ((some (20))) dX7_gather_116 rfl rfl ?_
  refine w_aload_n 2 ((some (x2))) dX7_gather_117 rfl rfl ?_
  replace h := e_grd h; obtain ⟨g9, h⟩ := h
  refine w_get dX7_gather_118 fl_RX7_69 ⟨g9.1, Or.inl g9.2⟩ (aFv_i rfl) ?_
  refine w_aload_n 1 ((some (2))) dX7_gather_121 rfl rfl ?_
  refine w_get dX7_gather_122 fl_RX7_72 ⟨rfl, Or.inr ⟨rfl, by decide⟩⟩ (aFv_i rfl) ?_
  replace h := e_bind h; obtain ⟨q10, e11, h⟩ := h
  refine w_callV1 (M2 := m_X7_far) (av := [.int (gI (sI q6.2 21 5 (q6.1)) x2 3), .int (gI (sI q6.2 21 5 (q6.1)) 2 3)]) (ci := 7) (c_X7_far _ _ _ _ e11) dX7_gather_125 kd_X7_far wd_20_5 wd_20_6 wd_20_7 rfl rfl ⟨rfl, Or.inr ⟨rfl, by decide⟩⟩ rfl ⟨Nat.le_of_ble_eq_true rfl, Nat.le_of_ble_eq_true rfl, Nat.le_of_ble_eq_true rfl, Nat.le_of_ble_eq_true rfl⟩ (Nat.le_of_ble_eq_true rfl) ?_
  refine w_iastore dX7_gather_128 ⟨rfl, Or.inr ⟨rfl, by decide⟩⟩ (by decide) ?_
  refine w_aload_n 0 ((some (20))) dX7_gather_129 rfl rfl ?_
  refine w_aload_n 2 ((some (x2))) dX7_gather_130 rfl rfl ?_
  replace h := e_grd h; obtain ⟨g13, h⟩ := h
  refine w_get dX7_gather_131 fl_RX7_78 ⟨g13.1, Or.inl g13.2⟩ (aFv_i rfl) ?_
  replace h := e_bind h; obtain ⟨q14, e15, h⟩ := h
  refine w_callV0 (M2 := m_X7_takeAmount) (av := [.int (gI (sI q10.2 21 8 (q10.1)) x2 4)]) (ci := 7) (c_X7_takeAmount _ _ _ _ e15) dX7_gather_134 kd_X7_takeAmount wd_20_13 wd_20_14 wd_20_15 rfl rfl ⟨rfl, Or.inr ⟨rfl, by decide⟩⟩ rfl ⟨Nat.le_of_ble_eq_true rfl, Nat.le_of_ble_eq_true rfl, Nat.le_of_ble_eq_true rfl, Nat.le_of_ble_eq_true rfl⟩ (Nat.le_of_ble_eq_true rfl) ?_
  obtain rfl := Option.some.inj h
  exact w_vreturn dX7_gather_137 rfl (Nat.le_of_ble_eq_true rfl) (Nat.le_of_ble_eq_true rfl)
set_option maxRecDepth 100000 in
set_option maxHeartbeats 4000000 in
theorem l_X7_gather_10_b (rec10 : Nat → Int32 → Int32 → aSt → Option (Unit × aSt)) (hrec10 : ∀ (x2 : Nat) (x3 : Int32) (x5 : Int32) (σ : aSt) (o : Unit × aSt), rec10 x2 x3 x5 σ = some o → AW true m_X7_gather 10 [(0, va_rf (some (20))), (1, va_rf (some (2))), (2, va_rf (some (x2))), (3, Value.int (x3)), (5, Value.int (x5))] [] σ 0 0 none o.2) (x2 : Nat) (x3 : Int32) (x5 : Int32) (σ : aSt) (o : Unit × aSt) (h : f_X7_gather_10_b rec10 x2 x3 x5 σ = some o) : AW true m_X7_gather 10 [(0, va_rf (some (20))), (1, va_rf (some (2))), (2, va_rf (some (x2))), (3, Value.int (x3)), (5, Value.int (x5))] [] σ 0 0 none o.2 := by
  unfold f_X7_gather_10_b at h
  refine w_iload 4 dX7_gather_10 rfl ?_
  refine w_aload_n 1 ((some (2))) dX7_gather_12 rfl rfl ?_
  refine w_get dX7_gather_13 fl_RX7_38 ⟨rfl, Or.inr ⟨rfl, by decide⟩⟩ (aFv_i rfl) ?_
  refine w_icmp_ge 76 dX7_gather_16 (by decide) (fun c18 => ?_) (fun c18 => ?_)
  · replace h := e_t c18 h
    refine w_sub [0, 1, 2] rfl ?_
    exact l_X7_gather_76 _ _ _ h
  · replace h := e_f c18 h
    refine w_aload_n 1 ((some (2))) dX7_gather_19 rfl rfl ?_
    refine w_iload 4 dX7_gather_20 rfl ?_
    replace h := e_bind h; obtain ⟨q19, e20, h⟩ := h
    refine w_callV1 (M2 := m_X3_inOrder) (av := [.int (x5)]) (ci := 3) (c_X3_inOrder _ _ _ e20) dX7_gather_22 kd_X3_inOrder wd_19_12 wd_17_10 wd_17_11 rfl rfl ⟨rfl, Or.inr ⟨rfl, by decide⟩⟩ rfl ⟨Nat.le_of_ble_eq_true rfl, Nat.le_of_ble_eq_true rfl, Nat.le_of_ble_eq_true rfl, Nat.le_of_ble_eq_true rfl⟩ (Nat.le_of_ble_eq_true rfl) ?_
    refine w_astore dX7_gather_25 (by decide) rfl ?_
    refine w_aload 0 (q19.1) dX7_gather_27 rfl ?_
    replace h := e_oC h; rcases h with ⟨r27, h⟩ | ⟨a21, r27, h⟩
    · rw [r27]
      refine w_ifnull0 76 dX7_gather_29 (by decide) ?_
      refine w_sub [1, 2, 3] rfl ?_
      exact l_X7_gather_76 _ _ _ h
    · rw [r27]
      refine w_ifnull1 dX7_gather_29 ?_
      refine w_aload 0 ((some (a21))) dX7_gather_32 rfl ?_
      replace h := e_grd h; obtain ⟨g22, h⟩ := h
      refine w_get dX7_gather_34 fl_RX7_47 ⟨g22.1, Or.inl g22.2⟩ (aFv_i rfl) ?_
      refine w_aload_n 3 ((some (x2))) dX7_gather_37 rfl rfl ?_
      replace h := e_grd h; obtain ⟨g23, h⟩ := h
      refine w_get dX7_gather_38 fl_RX7_47 ⟨g23.1, Or.inl g23.2⟩ (aFv_i rfl) ?_
      refine w_icmp_ne 47 dX7_gather_41 (by decide) (fun c24 => ?_) (fun c24 => ?_)
      · replace h := e_f c24 h
        refine w_iload_n 4 dX7_gather_47 rfl rfl ?_
        refine w_if_eq 63 dX7_gather_48 (by decide) (fun c25 => ?_) (fun c25 => ?_)
        · replace h := e_t c25 h
          refine w_sub [1, 2, 3, 4, 5, 0] rfl ?_
          exact l_X7_gather_63 rec10 hrec10 _ _ _ _ _ _ h
        · replace h := e_f c25 h
          refine w_aload 0 ((some (a21))) dX7_gather_51 rfl ?_
          refine w_get dX7_gather_53 fl_RX7_47 ⟨g22.1, Or.inl g22.2⟩ (aFv_i rfl) ?_
          refine w_aload_n 3 ((some (x2))) dX7_gather_56 rfl rfl ?_
          refine w_get dX7_gather_57 fl_RX7_47 ⟨g23.1, Or.inl g23.2⟩ (aFv_i rfl) ?_
          refine w_icmp_ge 70 dX7_gather_60 (by decide) (fun c26 => ?_) (fun c26 => ?_)
          · replace h := e_t c26 h
            refine w_sub [1, 2, 3, 4, 5] rfl ?_
            exact l_X7_gather_70 rec10 hrec10 _ _ _ _ _ h
          · replace h := e_f c26 h
            refine w_sub [1, 2, 3, 4, 5, 0] rfl ?_
            exact l_X7_gather_63 rec10 hrec10 _ _ _ _ _ _ h
      · replace h := e_t c24 h
        refine w_goto 76 dX7_gather_44 (by decide) ?_
        refine w_sub [1, 2, 3] rfl ?_
        exact l_X7_gather_76 _ _ _ h
theorem l_X7_gather_10  : ∀ (n : Nat) (x2 : Nat) (x3 : Int32) (x5 : Int32) (σ : aSt) (o : Unit × aSt), f_X7_gather_10  n x2 x3 x5 σ = some o → AW true m_X7_gather 10 [(0, va_rf (some (20))), (1, va_rf (some (2))), (2, va_rf (some (x2))), (3, Value.int (x3)), (5, Value.int (x5))] [] σ 0 0 none o.2
  | 0 => fun x2 x3 x5 σ o h => by cases h
  | n + 1 => fun x2 x3 x5 σ o h => l_X7_gather_10_b (f_X7_gather_10  n) (l_X7_gather_10  n) x2 x3 x5 σ o h
set_option maxRecDepth 100000 in
set_option maxHeartbeats 4000000 in
theorem c_X7_gather (p2 : Nat) (p3 : Int32) (p4 : Option Nat) (σ : aSt) (o : Unit × aSt) (h : f_X7_gather p2 p3 p4 σ = some o) : AM true m_X7_gather [va_rf (some (20)), va_rf (some (2)), va_rf (some (p2)), .int (p3), va_rf (p4)] σ none o.2 := by
  refine AM_of2 (lv := [(0, va_rf (some (20))), (1, va_rf (some (2))), (2, va_rf (some (p2))), (3, Value.int (p3)), (4, va_rf (p4))]) (by decide +kernel) (by simp [lv_args, aRf_cat, aI_cat, aL_cat]) (by simp [lg_sl, aRf_cat, aI_cat, aL_cat]) ?_
  unfold f_X7_gather at h
  refine w_aload_n 0 ((some (20))) dX7_gather_0 rfl rfl ?_
  refine w_aload_n 2 ((some (p2))) dX7_gather_1 rfl rfl ?_
  refine w_aload 4 (p4) dX7_gather_2 rfl ?_
  replace h := e_bind h; obtain ⟨q1, e2, h⟩ := h
  refine w_callV0 (M2 := m_X7_begin) (av := [va_rf (some (p2)), va_rf (p4)]) (ci := 7) (c_X7_begin _ _ _ _ e2) dX7_gather_4 kd_X7_begin wd_19_5 wd_19_6 wd_19_7 rfl rfl ⟨rfl, Or.inr ⟨rfl, by decide⟩⟩ rfl ⟨Nat.le_of_ble_eq_true rfl, Nat.le_of_ble_eq_true rfl, Nat.le_of_ble_eq_true rfl, Nat.le_of_ble_eq_true rfl⟩ (Nat.le_of_ble_eq_true rfl) ?_
  refine w_iconst (v := 0) dX7_gather_7 (by decide) ?_
  refine w_istore dX7_gather_8 (by decide) rfl ?_
  refine w_sub [1, 2, 3, 4, 0] rfl ?_
  exact l_X7_gather_10 aN _ _ _ _ _ h
theorem dX2_rowOf_0 : decode cX2_rowOf 0 = .ok (.aload_n 0, 1) := by decide +kernel
theorem dX2_rowOf_1 : decode cX2_rowOf 1 = .ok (.getfield 31, 3) := by decide +kernel
theorem dX2_rowOf_4 : decode cX2_rowOf 4 = .ok (.aload_n 0, 1) := by decide +kernel
theorem dX2_rowOf_5 : decode cX2_rowOf 5 = .ok (.getfield 46, 3) := by decide +kernel
theorem dX2_rowOf_8 : decode cX2_rowOf 8 = .ok (.aload_n 1, 1) := by decide +kernel
theorem dX2_rowOf_9 : decode cX2_rowOf 9 = .ok (.iload_n 2, 1) := by decide +kernel
theorem dX2_rowOf_10 : decode cX2_rowOf 10 = .ok (.aload_n 0, 1) := by decide +kernel
theorem dX2_rowOf_11 : decode cX2_rowOf 11 = .ok (.getfield 12, 3) := by decide +kernel
theorem dX2_rowOf_14 : decode cX2_rowOf 14 = .ok (.invokevirtual 59, 3) := by decide +kernel
theorem dX2_rowOf_17 : decode cX2_rowOf 17 = .ok (.aload_n 0, 1) := by decide +kernel
theorem dX2_rowOf_18 : decode cX2_rowOf 18 = .ok (.getfield 31, 3) := by decide +kernel
theorem dX2_rowOf_21 : decode cX2_rowOf 21 = .ok (.areturn, 1) := by decide +kernel
theorem kd_X2_rowOf : aKd m_X2_rowOf 2 := ⟨wd_18_18, wd_2_5, ⟨by decide +kernel, by decide +kernel, by decide +kernel⟩⟩
set_option maxRecDepth 100000 in
set_option maxHeartbeats 4000000 in
theorem c_X2_rowOf (p1 : Nat) (p2 : Int32) (σ : aSt) (o : Unit × aSt) (h : f_X2_rowOf p1 p2 σ = some o) : AM true m_X2_rowOf [va_rf (some (11)), va_rf (some (p1)), .int (p2)] σ (some (va_rf (some 20))) o.2 := by
  refine AM_of2 (lv := [(0, va_rf (some (11))), (1, va_rf (some (p1))), (2, Value.int (p2))]) (by decide +kernel) rfl (Nat.le_of_ble_eq_true rfl) ?_
  unfold f_X2_rowOf at h
  refine w_aload_n 0 ((some (11))) dX2_rowOf_0 rfl rfl ?_
  refine w_get (v := va_rf (some 20)) dX2_rowOf_1 fl_RX2_31 ⟨rfl, Or.inr ⟨rfl, by decide⟩⟩ (aFv_k rfl) ?_
  refine w_aload_n 0 ((some (11))) dX2_rowOf_4 rfl rfl ?_
  refine w_get (v := va_rf (some 2)) dX2_rowOf_5 fl_RX2_46 ⟨rfl, Or.inr ⟨rfl, by decide⟩⟩ (aFv_k rfl) ?_
  refine w_aload_n 1 ((some (p1))) dX2_rowOf_8 rfl rfl ?_
  refine w_iload_n 2 dX2_rowOf_9 rfl rfl ?_
  refine w_aload_n 0 ((some (11))) dX2_rowOf_10 rfl rfl ?_
  refine w_get dX2_rowOf_11 fl_RX2_12 ⟨rfl, Or.inr ⟨rfl, by decide⟩⟩ (aFv_q (Or.inl rfl)) ?_
  replace h := e_bind h; obtain ⟨q1, e2, h⟩ := h
  refine w_callV0 (M2 := m_X7_gather) (av := [va_rf (some (2)), va_rf (some (p1)), .int (p2), va_rf (gR σ 11 0)]) (ci := 7) (c_X7_gather _ _ _ _ _ e2) dX2_rowOf_14 kd_X7_gather wd_18_19 wd_18_20 wd_18_21 rfl rfl ⟨rfl, Or.inr ⟨rfl, by decide⟩⟩ rfl ⟨Nat.le_of_ble_eq_true rfl, Nat.le_of_ble_eq_true rfl, Nat.le_of_ble_eq_true rfl, Nat.le_of_ble_eq_true rfl⟩ (Nat.le_of_ble_eq_true rfl) ?_
  refine w_aload_n 0 ((some (11))) dX2_rowOf_17 rfl rfl ?_
  refine w_get (v := va_rf (some 20)) dX2_rowOf_18 fl_RX2_31 ⟨rfl, Or.inr ⟨rfl, by decide⟩⟩ (aFv_k rfl) ?_
  obtain rfl := Option.some.inj h
  exact w_areturn dX2_rowOf_21 rfl (Nat.le_of_ble_eq_true rfl) (Nat.le_of_ble_eq_true rfl)
theorem dX11_feature_0 : decode cX11_feature 0 = .ok (.aload_n 0, 1) := by decide +kernel
theorem dX11_feature_1 : decode cX11_feature 1 = .ok (.getfield 18, 3) := by decide +kernel
theorem dX11_feature_4 : decode cX11_feature 4 = .ok (.iload_n 1, 1) := by decide +kernel
theorem dX11_feature_5 : decode cX11_feature 5 = .ok (.invokevirtual 141, 3) := by decide +kernel
theorem dX11_feature_8 : decode cX11_feature 8 = .ok (.astore 4, 2) := by decide +kernel
theorem dX11_feature_10 : decode cX11_feature 10 = .ok (.aload 4, 2) := by decide +kernel
theorem dX11_feature_12 : decode cX11_feature 12 = .ok (.ifnull 22, 3) := by decide +kernel
theorem dX11_feature_15 : decode cX11_feature 15 = .ok (.iload_n 2, 1) := by decide +kernel
theorem dX11_feature_16 : decode cX11_feature 16 = .ok (.iconst 0, 1) := by decide +kernel
theorem dX11_feature_17 : decode cX11_feature 17 = .ok (.bipush 9, 2) := by decide +kernel
theorem dX11_feature_19 : decode cX11_feature 19 = .ok (.invokestatic 89, 3) := by decide +kernel
theorem dX11_feature_22 : decode cX11_feature 22 = .ok (.ifCond .eq 12, 3) := by decide +kernel
theorem dX11_feature_25 : decode cX11_feature 25 = .ok (.iload_n 3, 1) := by decide +kernel
theorem dX11_feature_26 : decode cX11_feature 26 = .ok (.iconst 0, 1) := by decide +kernel
theorem dX11_feature_27 : decode cX11_feature 27 = .ok (.iconst 1, 1) := by decide +kernel
theorem dX11_feature_28 : decode cX11_feature 28 = .ok (.invokestatic 89, 3) := by decide +kernel
theorem dX11_feature_31 : decode cX11_feature 31 = .ok (.ifCond .ne 6, 3) := by decide +kernel
theorem dX11_feature_34 : decode cX11_feature 34 = .ok (.ldc 93, 2) := by decide +kernel
theorem dX11_feature_36 : decode cX11_feature 36 = .ok (.ireturn, 1) := by decide +kernel
theorem dX11_feature_37 : decode cX11_feature 37 = .ok (.aload_n 0, 1) := by decide +kernel
theorem dX11_feature_38 : decode cX11_feature 38 = .ok (.getfield 43, 3) := by decide +kernel
theorem dX11_feature_41 : decode cX11_feature 41 = .ok (.aload 4, 2) := by decide +kernel
theorem dX11_feature_43 : decode cX11_feature 43 = .ok (.iload_n 3, 1) := by decide +kernel
theorem dX11_feature_44 : decode cX11_feature 44 = .ok (.invokevirtual 187, 3) := by decide +kernel
theorem dX11_feature_47 : decode cX11_feature 47 = .ok (.getfield 191, 3) := by decide +kernel
theorem dX11_feature_50 : decode cX11_feature 50 = .ok (.iload_n 2, 1) := by decide +kernel
theorem dX11_feature_51 : decode cX11_feature 51 = .ok (.iaload, 1) := by decide +kernel
theorem dX11_feature_52 : decode cX11_feature 52 = .ok (.ireturn, 1) := by decide +kernel
theorem kd_X11_feature : aKd m_X11_feature 3 := ⟨wd_18_13, wd_1_2, ⟨by decide +kernel, by decide +kernel, by decide +kernel⟩⟩
set_option maxRecDepth 100000 in
set_option maxHeartbeats 4000000 in
theorem l_X11_feature_34   (σ : aSt) (o : Int32 × aSt) (h : f_X11_feature_34   σ = some o) : AW true m_X11_feature 34 [] [] σ 0 0 (some (.int o.1)) o.2 := by
  unfold f_X11_feature_34 at h
  refine w_ldc (v := (-1000001)) dX11_feature_34 wd_9_18 ?_
  obtain rfl := Option.some.inj h
  exact w_ireturn dX11_feature_36 rfl (Nat.le_of_ble_eq_true rfl) (Nat.le_of_ble_eq_true rfl)
set_option maxRecDepth 100000 in
set_option maxHeartbeats 4000000 in
theorem c_X11_feature (p1 : Int32) (p2 : Int32) (p3 : Int32) (σ : aSt) (o : Int32 × aSt) (h : f_X11_feature p1 p2 p3 σ = some o) : AM true m_X11_feature [va_rf (some (0)), .int (p1), .int (p2), .int (p3)] σ (some (.int o.1)) o.2 := by
  refine AM_of2 (lv := [(0, va_rf (some (0))), (1, Value.int (p1)), (2, Value.int (p2)), (3, Value.int (p3))]) (by decide +kernel) rfl (Nat.le_of_ble_eq_true rfl) ?_
  unfold f_X11_feature at h
  refine w_aload_n 0 ((some (0))) dX11_feature_0 rfl rfl ?_
  refine w_get (v := va_rf (some 2)) dX11_feature_1 fl_RX11_18 ⟨rfl, Or.inr ⟨rfl, by decide⟩⟩ (aFv_k rfl) ?_
  refine w_iload_n 1 dX11_feature_4 rfl rfl ?_
  replace h := e_bind h; obtain ⟨q1, e2, h⟩ := h
  refine w_callV1 (M2 := m_X3_find) (av := [.int (p1)]) (ci := 3) (c_X3_find _ _ _ e2) dX11_feature_5 kd_X3_find wd_13_20 wd_13_21 wd_13_22 rfl rfl ⟨rfl, Or.inr ⟨rfl, by decide⟩⟩ rfl ⟨Nat.le_of_ble_eq_true rfl, Nat.le_of_ble_eq_true rfl, Nat.le_of_ble_eq_true rfl, Nat.le_of_ble_eq_true rfl⟩ (Nat.le_of_ble_eq_true rfl) ?_
  refine w_astore dX11_feature_8 (by decide) rfl ?_
  refine w_aload 0 (q1.1) dX11_feature_10 rfl ?_
  replace h := e_oC h; rcases h with ⟨r13, h⟩ | ⟨a3, r13, h⟩
  · rw [r13]
    refine w_ifnull0 34 dX11_feature_12 (by decide) ?_
    refine w_sub [] rfl ?_
    exact l_X11_feature_34 _ _ h
  · rw [r13]
    refine w_ifnull1 dX11_feature_12 ?_
    refine w_iload_n 3 dX11_feature_15 rfl rfl ?_
    refine w_iconst (v := 0) dX11_feature_16 (by decide) ?_
    refine w_bipush (v := 9) dX11_feature_17 (by decide) ?_
    replace h := e_bind h; obtain ⟨q4, e5, h⟩ := h
    refine w_callS1 (M2 := m_X11_within) (av := [.int (p2), .int (0), .int (9)]) (c_X11_within _ _ _ _ _ e5) dX11_feature_19 kd_X11_within wd_9_22 wd_9_23 rfl rfl ⟨Nat.le_of_ble_eq_true rfl, Nat.le_of_ble_eq_true rfl, Nat.le_of_ble_eq_true rfl, Nat.le_of_ble_eq_true rfl⟩ (Nat.le_of_ble_eq_true rfl) ?_
    refine w_if_eq 34 dX11_feature_22 (by decide) (fun c6 => ?_) (fun c6 => ?_)
    · replace h := e_t c6 h
      refine w_sub [] rfl ?_
      exact l_X11_feature_34 _ _ h
    · replace h := e_f c6 h
      refine w_iload_n 4 dX11_feature_25 rfl rfl ?_
      refine w_iconst (v := 0) dX11_feature_26 (by decide) ?_
      refine w_iconst (v := 1) dX11_feature_27 (by decide) ?_
      replace h := e_bind h; obtain ⟨q7, e8, h⟩ := h
      refine w_callS1 (M2 := m_X11_within) (av := [.int (p3), .int (0), .int (1)]) (c_X11_within _ _ _ _ _ e8) dX11_feature_28 kd_X11_within wd_9_22 wd_9_23 rfl rfl ⟨Nat.le_of_ble_eq_true rfl, Nat.le_of_ble_eq_true rfl, Nat.le_of_ble_eq_true rfl, Nat.le_of_ble_eq_true rfl⟩ (Nat.le_of_ble_eq_true rfl) ?_
      refine w_if_ne 37 dX11_feature_31 (by decide) (fun c9 => ?_) (fun c9 => ?_)
      · replace h := e_f c9 h
        refine w_aload_n 1 ((some (0))) dX11_feature_37 rfl rfl ?_
        refine w_get (v := va_rf (some 11)) dX11_feature_38 fl_RX11_43 ⟨rfl, Or.inr ⟨rfl, by decide⟩⟩ (aFv_k rfl) ?_
        refine w_aload 0 ((some (a3))) dX11_feature_41 rfl ?_
        refine w_iload_n 4 dX11_feature_43 rfl rfl ?_
        replace h := e_bind h; obtain ⟨q10, e11, h⟩ := h
        refine w_callV1 (M2 := m_X2_rowOf) (av := [va_rf (some (a3)), .int (p3)]) (ci := 2) (c_X2_rowOf _ _ _ _ e11) dX11_feature_44 kd_X2_rowOf wd_18_15 wd_18_16 wd_18_17 rfl rfl ⟨rfl, Or.inr ⟨rfl, by decide⟩⟩ rfl ⟨Nat.le_of_ble_eq_true rfl, Nat.le_of_ble_eq_true rfl, Nat.le_of_ble_eq_true rfl, Nat.le_of_ble_eq_true rfl⟩ (Nat.le_of_ble_eq_true rfl) ?_
        refine w_get (v := va_rf (some 21)) dX11_feature_47 fl_RX11_191 ⟨rfl, Or.inr ⟨rfl, by decide⟩⟩ (aFv_k rfl) ?_
        refine w_iload_n 3 dX11_feature_50 rfl rfl ?_
        replace h := e_grd h; obtain ⟨b12, h⟩ := h
        refine w_iaload dX11_feature_51 ⟨rfl, Or.inr ⟨rfl, by decide⟩⟩ b12 ?_
        obtain rfl := Option.some.inj h
        exact w_ireturn dX11_feature_52 rfl (Nat.le_of_ble_eq_true rfl) (Nat.le_of_ble_eq_true rfl)
      · replace h := e_t c9 h
        refine w_sub [] rfl ?_
        exact l_X11_feature_34 _ _ h
theorem dX11_profile_0 : decode cX11_profile 0 = .ok (.aload_n 0, 1) := by decide +kernel
theorem dX11_profile_1 : decode cX11_profile 1 = .ok (.getfield 18, 3) := by decide +kernel
theorem dX11_profile_4 : decode cX11_profile 4 = .ok (.iload_n 1, 1) := by decide +kernel
theorem dX11_profile_5 : decode cX11_profile 5 = .ok (.invokevirtual 141, 3) := by decide +kernel
theorem dX11_profile_8 : decode cX11_profile 8 = .ok (.astore_n 3, 1) := by decide +kernel
theorem dX11_profile_9 : decode cX11_profile 9 = .ok (.aload_n 3, 1) := by decide +kernel
theorem dX11_profile_10 : decode cX11_profile 10 = .ok (.ifnull 12, 3) := by decide +kernel
theorem dX11_profile_13 : decode cX11_profile 13 = .ok (.iload_n 2, 1) := by decide +kernel
theorem dX11_profile_14 : decode cX11_profile 14 = .ok (.iconst 0, 1) := by decide +kernel
theorem dX11_profile_15 : decode cX11_profile 15 = .ok (.iconst 1, 1) := by decide +kernel
theorem dX11_profile_16 : decode cX11_profile 16 = .ok (.invokestatic 89, 3) := by decide +kernel
theorem dX11_profile_19 : decode cX11_profile 19 = .ok (.ifCond .ne 6, 3) := by decide +kernel
theorem dX11_profile_22 : decode cX11_profile 22 = .ok (.ldc 93, 2) := by decide +kernel
theorem dX11_profile_24 : decode cX11_profile 24 = .ok (.ireturn, 1) := by decide +kernel
theorem dX11_profile_25 : decode cX11_profile 25 = .ok (.aload_n 0, 1) := by decide +kernel
theorem dX11_profile_26 : decode cX11_profile 26 = .ok (.getfield 43, 3) := by decide +kernel
theorem dX11_profile_29 : decode cX11_profile 29 = .ok (.aload_n 3, 1) := by decide +kernel
theorem dX11_profile_30 : decode cX11_profile 30 = .ok (.iload_n 2, 1) := by decide +kernel
theorem dX11_profile_31 : decode cX11_profile 31 = .ok (.invokevirtual 187, 3) := by decide +kernel
theorem dX11_profile_34 : decode cX11_profile 34 = .ok (.getfield 194, 3) := by decide +kernel
theorem dX11_profile_37 : decode cX11_profile 37 = .ok (.ireturn, 1) := by decide +kernel
theorem kd_X11_profile : aKd m_X11_profile 2 := ⟨wd_22_0, wd_1_2, ⟨by decide +kernel, by decide +kernel, by decide +kernel⟩⟩
set_option maxRecDepth 100000 in
set_option maxHeartbeats 4000000 in
theorem l_X11_profile_22   (σ : aSt) (o : Int32 × aSt) (h : f_X11_profile_22   σ = some o) : AW true m_X11_profile 22 [] [] σ 0 0 (some (.int o.1)) o.2 := by
  unfold f_X11_profile_22 at h
  refine w_ldc (v := (-1000001)) dX11_profile_22 wd_9_18 ?_
  obtain rfl := Option.some.inj h
  exact w_ireturn dX11_profile_24 rfl (Nat.le_of_ble_eq_true rfl) (Nat.le_of_ble_eq_true rfl)
set_option maxRecDepth 100000 in
set_option maxHeartbeats 4000000 in
theorem c_X11_profile (p1 : Int32) (p2 : Int32) (σ : aSt) (o : Int32 × aSt) (h : f_X11_profile p1 p2 σ = some o) : AM true m_X11_profile [va_rf (some (0)), .int (p1), .int (p2)] σ (some (.int o.1)) o.2 := by
  refine AM_of2 (lv := [(0, va_rf (some (0))), (1, Value.int (p1)), (2, Value.int (p2))]) (by decide +kernel) rfl (Nat.le_of_ble_eq_true rfl) ?_
  unfold f_X11_profile at h
  refine w_aload_n 0 ((some (0))) dX11_profile_0 rfl rfl ?_
  refine w_get (v := va_rf (some 2)) dX11_profile_1 fl_RX11_18 ⟨rfl, Or.inr ⟨rfl, by decide⟩⟩ (aFv_k rfl) ?_
  refine w_iload_n 1 dX11_profile_4 rfl rfl ?_
  replace h := e_bind h; obtain ⟨q1, e2, h⟩ := h
  refine w_callV1 (M2 := m_X3_find) (av := [.int (p1)]) (ci := 3) (c_X3_find _ _ _ e2) dX11_profile_5 kd_X3_find wd_13_20 wd_13_21 wd_13_22 rfl rfl ⟨rfl, Or.inr ⟨rfl, by decide⟩⟩ rfl ⟨Nat.le_of_ble_eq_true rfl, Nat.le_of_ble_eq_true rfl, Nat.le_of_ble_eq_true rfl, Nat.le_of_ble_eq_true rfl⟩ (Nat.le_of_ble_eq_true rfl) ?_
  refine w_astore_n dX11_profile_8 rfl (by decide) rfl ?_
  refine w_aload_n 0 (q1.1) dX11_profile_9 rfl rfl ?_
  replace h := e_oC h; rcases h with ⟨r9, h⟩ | ⟨a3, r9, h⟩
  · rw [r9]
    refine w_ifnull0 22 dX11_profile_10 (by decide) ?_
    refine w_sub [] rfl ?_
    exact l_X11_profile_22 _ _ h
  · rw [r9]
    refine w_ifnull1 dX11_profile_10 ?_
    refine w_iload_n 3 dX11_profile_13 rfl rfl ?_
    refine w_iconst (v := 0) dX11_profile_14 (by decide) ?_
    refine w_iconst (v := 1) dX11_profile_15 (by decide) ?_
    replace h := e_bind h; obtain ⟨q4, e5, h⟩ := h
    refine w_callS1 (M2 := m_X11_within) (av := [.int (p2), .int (0), .int (1)]) (c_X11_within _ _ _ _ _ e5) dX11_profile_16 kd_X11_within wd_9_22 wd_9_23 rfl rfl ⟨Nat.le_of_ble_eq_true rfl, Nat.le_of_ble_eq_true rfl, Nat.le_of_ble_eq_true rfl, Nat.le_of_ble_eq_true rfl⟩ (Nat.le_of_ble_eq_true rfl) ?_
    refine w_if_ne 25 dX11_profile_19 (by decide) (fun c6 => ?_) (fun c6 => ?_)
    · replace h := e_f c6 h
      refine w_aload_n 1 ((some (0))) dX11_profile_25 rfl rfl ?_
      refine w_get (v := va_rf (some 11)) dX11_profile_26 fl_RX11_43 ⟨rfl, Or.inr ⟨rfl, by decide⟩⟩ (aFv_k rfl) ?_
      refine w_aload_n 0 ((some (a3))) dX11_profile_29 rfl rfl ?_
      refine w_iload_n 3 dX11_profile_30 rfl rfl ?_
      replace h := e_bind h; obtain ⟨q7, e8, h⟩ := h
      refine w_callV1 (M2 := m_X2_rowOf) (av := [va_rf (some (a3)), .int (p2)]) (ci := 2) (c_X2_rowOf _ _ _ _ e8) dX11_profile_31 kd_X2_rowOf wd_18_15 wd_18_16 wd_18_17 rfl rfl ⟨rfl, Or.inr ⟨rfl, by decide⟩⟩ rfl ⟨Nat.le_of_ble_eq_true rfl, Nat.le_of_ble_eq_true rfl, Nat.le_of_ble_eq_true rfl, Nat.le_of_ble_eq_true rfl⟩ (Nat.le_of_ble_eq_true rfl) ?_
      refine w_get dX11_profile_34 fl_RX11_194 ⟨rfl, Or.inr ⟨rfl, by decide⟩⟩ (aFv_i rfl) ?_
      obtain rfl := Option.some.inj h
      exact w_ireturn dX11_profile_37 rfl (Nat.le_of_ble_eq_true rfl) (Nat.le_of_ble_eq_true rfl)
    · replace h := e_t c6 h
      refine w_sub [] rfl ?_
      exact l_X11_profile_22 _ _ h
theorem dX10_add_0 : decode cX10_add 0 = .ok (.iload_n 3, 1) := by decide +kernel
theorem dX10_add_1 : decode cX10_add 1 = .ok (.iconst 1, 1) := by decide +kernel
theorem dX10_add_2 : decode cX10_add 2 = .ok (.isub, 1) := by decide +kernel
theorem dX10_add_3 : decode cX10_add 3 = .ok (.istore 4, 2) := by decide +kernel
theorem dX10_add_5 : decode cX10_add 5 = .ok (.iload 4, 2) := by decide +kernel
theorem dX10_add_7 : decode cX10_add 7 = .ok (.ifCond .lt 47, 3) := by decide +kernel
theorem dX10_add_10 : decode cX10_add 10 = .ok (.aload_n 0, 1) := by decide +kernel
theorem dX10_add_11 : decode cX10_add 11 = .ok (.getfield 19, 3) := by decide +kernel
theorem dX10_add_14 : decode cX10_add 14 = .ok (.sipush 600, 3) := by decide +kernel
theorem dX10_add_17 : decode cX10_add 17 = .ok (.if_icmp .ge 37, 3) := by decide +kernel
theorem dX10_add_20 : decode cX10_add 20 = .ok (.aload_n 0, 1) := by decide +kernel
theorem dX10_add_21 : decode cX10_add 21 = .ok (.getfield 23, 3) := by decide +kernel
theorem dX10_add_24 : decode cX10_add 24 = .ok (.aload_n 0, 1) := by decide +kernel
theorem dX10_add_25 : decode cX10_add 25 = .ok (.getfield 19, 3) := by decide +kernel
theorem dX10_add_28 : decode cX10_add 28 = .ok (.lload_n 1, 1) := by decide +kernel
theorem dX10_add_29 : decode cX10_add 29 = .ok (.bipush 8, 2) := by decide +kernel
theorem dX10_add_31 : decode cX10_add 31 = .ok (.iload 4, 2) := by decide +kernel
theorem dX10_add_33 : decode cX10_add 33 = .ok (.imul, 1) := by decide +kernel
theorem dX10_add_34 : decode cX10_add 34 = .ok (.lshr, 1) := by decide +kernel
theorem dX10_add_35 : decode cX10_add 35 = .ok (.l2i, 1) := by decide +kernel
theorem dX10_add_36 : decode cX10_add 36 = .ok (.i2b, 1) := by decide +kernel
theorem dX10_add_37 : decode cX10_add 37 = .ok (.bastore, 1) := by decide +kernel
theorem dX10_add_38 : decode cX10_add 38 = .ok (.aload_n 0, 1) := by decide +kernel
theorem dX10_add_39 : decode cX10_add 39 = .ok (.dup, 1) := by decide +kernel
theorem dX10_add_40 : decode cX10_add 40 = .ok (.getfield 19, 3) := by decide +kernel
theorem dX10_add_43 : decode cX10_add 43 = .ok (.iconst 1, 1) := by decide +kernel
theorem dX10_add_44 : decode cX10_add 44 = .ok (.iadd, 1) := by decide +kernel
theorem dX10_add_45 : decode cX10_add 45 = .ok (.putfield 19, 3) := by decide +kernel
theorem dX10_add_48 : decode cX10_add 48 = .ok (.iinc 4 (-1), 3) := by decide +kernel
theorem dX10_add_51 : decode cX10_add 51 = .ok (.goto (-46), 3) := by decide +kernel
theorem dX10_add_54 : decode cX10_add 54 = .ok (.return_, 1) := by decide +kernel
theorem kd_X10_add : aKd m_X10_add 2 := ⟨wd_22_14, wd_1_21, ⟨by decide +kernel, by decide +kernel, by decide +kernel⟩⟩
set_option maxRecDepth 100000 in
set_option maxHeartbeats 4000000 in
theorem l_X10_add_54   (σ : aSt) (o : Unit × aSt) (h : f_X10_add_54   σ = some o) : AW true m_X10_add 54 [] [] σ 0 0 none o.2 := by
  unfold f_X10_add_54 at h
  obtain rfl := Option.some.inj h
  exact w_vreturn dX10_add_54 rfl (Nat.le_of_ble_eq_true rfl) (Nat.le_of_ble_eq_true rfl)
set_option maxRecDepth 100000 in
set_option maxHeartbeats 4000000 in
theorem l_X10_add_5_b (rec5 : Int64 → Int32 → aSt → Option (Unit × aSt)) (hrec5 : ∀ (x1 : Int64) (x4 : Int32) (σ : aSt) (o : Unit × aSt), rec5 x1 x4 σ = some o → AW true m_X10_add 5 [(0, va_rf (some (5))), (1, Value.long (x1)), (4, Value.int (x4))] [] σ 0 0 none o.2) (x1 : Int64) (x4 : Int32) (σ : aSt) (o : Unit × aSt) (h : f_X10_add_5_b rec5 x1 x4 σ = some o) : AW true m_X10_add 5 [(0, va_rf (some (5))), (1, Value.long (x1)), (4, Value.int (x4))] [] σ 0 0 none o.2 := by
  unfold f_X10_add_5_b at h
  refine w_iload 2 dX10_add_5 rfl ?_
  refine w_if_lt 54 dX10_add_7 (by decide) (fun c1 => ?_) (fun c1 => ?_)
  · replace h := e_t c1 h
    refine w_sub [] rfl ?_
    exact l_X10_add_54 _ _ h
  · replace h := e_f c1 h
    refine w_aload_n 0 ((some (5))) dX10_add_10 rfl rfl ?_
    refine w_get dX10_add_11 fl_RX10_19 ⟨rfl, Or.inr ⟨rfl, by decide⟩⟩ (aFv_i rfl) ?_
    refine w_sipush (v := 600) dX10_add_14 (by decide) ?_
    refine w_icmp_ge 54 dX10_add_17 (by decide) (fun c2 => ?_) (fun c2 => ?_)
    · replace h := e_t c2 h
      refine w_sub [] rfl ?_
      exact l_X10_add_54 _ _ h
    · replace h := e_f c2 h
      refine w_aload_n 0 ((some (5))) dX10_add_20 rfl rfl ?_
      refine w_get (v := va_rf (some 9)) dX10_add_21 fl_RX10_23 ⟨rfl, Or.inr ⟨rfl, by decide⟩⟩ (aFv_k rfl) ?_
      refine w_aload_n 0 ((some (5))) dX10_add_24 rfl rfl ?_
      refine w_get dX10_add_25 fl_RX10_19 ⟨rfl, Or.inr ⟨rfl, by decide⟩⟩ (aFv_i rfl) ?_
      refine w_lload_n 1 dX10_add_28 rfl rfl ?_
      refine w_bipush (v := 8) dX10_add_29 (by decide) ?_
      refine w_iload 2 dX10_add_31 rfl ?_
      refine w_imul dX10_add_33 ?_
      refine w_lshr dX10_add_34 ?_
      refine w_l2i dX10_add_35 ?_
      refine w_i2b dX10_add_36 ?_
      replace h := e_grd h; obtain ⟨b3, h⟩ := h
      refine w_bastore dX10_add_37 ⟨rfl, Or.inr ⟨rfl, by decide⟩⟩ b3 ?_
      refine w_aload_n 0 ((some (5))) dX10_add_38 rfl rfl ?_
      refine w_dup dX10_add_39 (aRf_cat _) ?_
      refine w_get dX10_add_40 fl_RX10_19 ⟨rfl, Or.inr ⟨rfl, by decide⟩⟩ (aFv_i rfl) ?_
      refine w_iconst (v := 1) dX10_add_43 (by decide) ?_
      refine w_iadd dX10_add_44 ?_
      refine w_putI dX10_add_45 fl_RX10_19 (Or.inl rfl) rfl ⟨rfl, Or.inr ⟨rfl, by decide⟩⟩ ?_
      refine w_iinc (q := 2) (v := x4 + (-1)) dX10_add_48 rfl rfl (by decide) rfl ?_
      refine w_goto 5 dX10_add_51 (by decide) ?_
      refine w_sub [1, 2, 0] rfl ?_
      exact hrec5 _ _ _ _ h
theorem l_X10_add_5  : ∀ (n : Nat) (x1 : Int64) (x4 : Int32) (σ : aSt) (o : Unit × aSt), f_X10_add_5  n x1 x4 σ = some o → AW true m_X10_add 5 [(0, va_rf (some (5))), (1, Value.long (x1)), (4, Value.int (x4))] [] σ 0 0 none o.2
  | 0 => fun x1 x4 σ o h => by cases h
  | n + 1 => fun x1 x4 σ o h => l_X10_add_5_b (f_X10_add_5  n) (l_X10_add_5  n) x1 x4 σ o h
set_option maxRecDepth 100000 in
set_option maxHeartbeats 4000000 in
theorem c_X10_add (p1 : Int64) (p3 : Int32) (σ : aSt) (o : Unit × aSt) (h : f_X10_add p1 p3 σ = some o) : AM true m_X10_add [va_rf (some (5)), .long (p1), .int (p3)] σ none o.2 := by
  refine AM_of2 (lv := [(0, va_rf (some (5))), (1, Value.long (p1)), (3, Value.int (p3))]) (by decide +kernel) rfl (Nat.le_of_ble_eq_true rfl) ?_
  unfold f_X10_add at h
  refine w_iload_n 2 dX10_add_0 rfl rfl ?_
  refine w_iconst (v := 1) dX10_add_1 (by decide) ?_
  refine w_isub dX10_add_2 ?_
  refine w_istore dX10_add_3 (by decide) rfl ?_
  refine w_sub [1, 2, 0] rfl ?_
  exact l_X10_add_5 aN _ _ _ _ h
theorem dX11_feed_0 : decode cX11_feed 0 = .ok (.iload_n 3, 1) := by decide +kernel
theorem dX11_feed_1 : decode cX11_feed 1 = .ok (.iconst 1, 1) := by decide +kernel
theorem dX11_feed_2 : decode cX11_feed 2 = .ok (.bipush 8, 2) := by decide +kernel
theorem dX11_feed_4 : decode cX11_feed 4 = .ok (.invokestatic 89, 3) := by decide +kernel
theorem dX11_feed_7 : decode cX11_feed 7 = .ok (.ifCond .ne 6, 3) := by decide +kernel
theorem dX11_feed_10 : decode cX11_feed 10 = .ok (.ldc 93, 2) := by decide +kernel
theorem dX11_feed_12 : decode cX11_feed 12 = .ok (.ireturn, 1) := by decide +kernel
theorem dX11_feed_13 : decode cX11_feed 13 = .ok (.iload_n 3, 1) := by decide +kernel
theorem dX11_feed_14 : decode cX11_feed 14 = .ok (.sipush 600, 3) := by decide +kernel
theorem dX11_feed_17 : decode cX11_feed 17 = .ok (.aload_n 0, 1) := by decide +kernel
theorem dX11_feed_18 : decode cX11_feed 18 = .ok (.getfield 25, 3) := by decide +kernel
theorem dX11_feed_21 : decode cX11_feed 21 = .ok (.getfield 197, 3) := by decide +kernel
theorem dX11_feed_24 : decode cX11_feed 24 = .ok (.isub, 1) := by decide +kernel
theorem dX11_feed_25 : decode cX11_feed 25 = .ok (.if_icmp .le 6, 3) := by decide +kernel
theorem dX11_feed_28 : decode cX11_feed 28 = .ok (.ldc 198, 2) := by decide +kernel
theorem dX11_feed_30 : decode cX11_feed 30 = .ok (.ireturn, 1) := by decide +kernel
theorem dX11_feed_31 : decode cX11_feed 31 = .ok (.aload_n 0, 1) := by decide +kernel
theorem dX11_feed_32 : decode cX11_feed 32 = .ok (.getfield 25, 3) := by decide +kernel
theorem dX11_feed_35 : decode cX11_feed 35 = .ok (.lload_n 1, 1) := by decide +kernel
theorem dX11_feed_36 : decode cX11_feed 36 = .ok (.iload_n 3, 1) := by decide +kernel
theorem dX11_feed_37 : decode cX11_feed 37 = .ok (.invokevirtual 199, 3) := by decide +kernel
theorem dX11_feed_40 : decode cX11_feed 40 = .ok (.aload_n 0, 1) := by decide +kernel
theorem dX11_feed_41 : decode cX11_feed 41 = .ok (.getfield 25, 3) := by decide +kernel
theorem dX11_feed_44 : decode cX11_feed 44 = .ok (.getfield 197, 3) := by decide +kernel
theorem dX11_feed_47 : decode cX11_feed 47 = .ok (.ireturn, 1) := by decide +kernel
theorem kd_X11_feed : aKd m_X11_feed 2 := ⟨wd_22_9, wd_1_2, ⟨by decide +kernel, by decide +kernel, by decide +kernel⟩⟩
set_option maxRecDepth 100000 in
set_option maxHeartbeats 4000000 in
theorem c_X11_feed (p1 : Int64) (p3 : Int32) (σ : aSt) (o : Int32 × aSt) (h : f_X11_feed p1 p3 σ = some o) : AM true m_X11_feed [va_rf (some (0)), .long (p1), .int (p3)] σ (some (.int o.1)) o.2 := by
  refine AM_of2 (lv := [(0, va_rf (some (0))), (1, Value.long (p1)), (3, Value.int (p3))]) (by decide +kernel) rfl (Nat.le_of_ble_eq_true rfl) ?_
  unfold f_X11_feed at h
  refine w_iload_n 2 dX11_feed_0 rfl rfl ?_
  refine w_iconst (v := 1) dX11_feed_1 (by decide) ?_
  refine w_bipush (v := 8) dX11_feed_2 (by decide) ?_
  replace h := e_bind h; obtain ⟨q1, e2, h⟩ := h
  refine w_callS1 (M2 := m_X11_within) (av := [.int (p3), .int (1), .int (8)]) (c_X11_within _ _ _ _ _ e2) dX11_feed_4 kd_X11_within wd_9_22 wd_9_23 rfl rfl ⟨Nat.le_of_ble_eq_true rfl, Nat.le_of_ble_eq_true rfl, Nat.le_of_ble_eq_true rfl, Nat.le_of_ble_eq_true rfl⟩ (Nat.le_of_ble_eq_true rfl) ?_
  refine w_if_ne 13 dX11_feed_7 (by decide) (fun c3 => ?_) (fun c3 => ?_)
  · replace h := e_f c3 h
    refine w_iload_n 2 dX11_feed_13 rfl rfl ?_
    refine w_sipush (v := 600) dX11_feed_14 (by decide) ?_
    refine w_aload_n 0 ((some (0))) dX11_feed_17 rfl rfl ?_
    refine w_get (v := va_rf (some 5)) dX11_feed_18 fl_RX11_25 ⟨rfl, Or.inr ⟨rfl, by decide⟩⟩ (aFv_k rfl) ?_
    refine w_get dX11_feed_21 fl_RX11_197 ⟨rfl, Or.inr ⟨rfl, by decide⟩⟩ (aFv_i rfl) ?_
    refine w_isub dX11_feed_24 ?_
    refine w_icmp_le 31 dX11_feed_25 (by decide) (fun c4 => ?_) (fun c4 => ?_)
    · replace h := e_t c4 h
      refine w_aload_n 0 ((some (0))) dX11_feed_31 rfl rfl ?_
      refine w_get (v := va_rf (some 5)) dX11_feed_32 fl_RX11_25 ⟨rfl, Or.inr ⟨rfl, by decide⟩⟩ (aFv_k rfl) ?_
      refine w_lload_n 1 dX11_feed_35 rfl rfl ?_
      refine w_iload_n 2 dX11_feed_36 rfl rfl ?_
      replace h := e_bind h; obtain ⟨q5, e6, h⟩ := h
      refine w_callV0 (M2 := m_X10_add) (av := [.long (p1), .int (p3)]) (ci := 10) (c_X10_add _ _ _ _ e6) dX11_feed_37 kd_X10_add wd_22_11 wd_22_12 wd_22_13 rfl rfl ⟨rfl, Or.inr ⟨rfl, by decide⟩⟩ rfl ⟨Nat.le_of_ble_eq_true rfl, Nat.le_of_ble_eq_true rfl, Nat.le_of_ble_eq_true rfl, Nat.le_of_ble_eq_true rfl⟩ (Nat.le_of_ble_eq_true rfl) ?_
      refine w_aload_n 0 ((some (0))) dX11_feed_40 rfl rfl ?_
      refine w_get (v := va_rf (some 5)) dX11_feed_41 fl_RX11_25 ⟨rfl, Or.inr ⟨rfl, by decide⟩⟩ (aFv_k rfl) ?_
      refine w_get dX11_feed_44 fl_RX11_197 ⟨rfl, Or.inr ⟨rfl, by decide⟩⟩ (aFv_i rfl) ?_
      obtain rfl := Option.some.inj h
      exact w_ireturn dX11_feed_47 rfl (Nat.le_of_ble_eq_true rfl) (Nat.le_of_ble_eq_true rfl)
    · replace h := e_f c4 h
      refine w_ldc (v := (-1000003)) dX11_feed_28 wd_13_15 ?_
      obtain rfl := Option.some.inj h
      exact w_ireturn dX11_feed_30 rfl (Nat.le_of_ble_eq_true rfl) (Nat.le_of_ble_eq_true rfl)
  · replace h := e_t c3 h
    refine w_ldc (v := (-1000001)) dX11_feed_10 wd_9_18 ?_
    obtain rfl := Option.some.inj h
    exact w_ireturn dX11_feed_12 rfl (Nat.le_of_ble_eq_true rfl) (Nat.le_of_ble_eq_true rfl)
theorem dX10_isLetter_0 : decode cX10_isLetter 0 = .ok (.iload_n 0, 1) := by decide +kernel
theorem dX10_isLetter_1 : decode cX10_isLetter 1 = .ok (.bipush 97, 2) := by decide +kernel
theorem dX10_isLetter_3 : decode cX10_isLetter 3 = .ok (.if_icmp .lt 13, 3) := by decide +kernel
theorem dX10_isLetter_6 : decode cX10_isLetter 6 = .ok (.iload_n 0, 1) := by decide +kernel
theorem dX10_isLetter_7 : decode cX10_isLetter 7 = .ok (.bipush 122, 2) := by decide +kernel
theorem dX10_isLetter_9 : decode cX10_isLetter 9 = .ok (.if_icmp .gt 7, 3) := by decide +kernel
theorem dX10_isLetter_12 : decode cX10_isLetter 12 = .ok (.iconst 1, 1) := by decide +kernel
theorem dX10_isLetter_13 : decode cX10_isLetter 13 = .ok (.goto 4, 3) := by decide +kernel
theorem dX10_isLetter_16 : decode cX10_isLetter 16 = .ok (.iconst 0, 1) := by decide +kernel
theorem dX10_isLetter_17 : decode cX10_isLetter 17 = .ok (.ireturn, 1) := by decide +kernel
theorem kd_X10_isLetter : aKd m_X10_isLetter 1 := ⟨wd_24_1, wd_1_21, ⟨by decide +kernel, by decide +kernel, by decide +kernel⟩⟩
set_option maxRecDepth 100000 in
set_option maxHeartbeats 4000000 in
theorem l_X10_isLetter_17  (t0 : Int32) (σ : aSt) (o : Int32 × aSt) (h : f_X10_isLetter_17  t0 σ = some o) : AW true m_X10_isLetter 17 [] [.int (t0)] σ 0 0 (some (.int o.1)) o.2 := by
  unfold f_X10_isLetter_17 at h
  replace h := e_grd h; obtain ⟨g3, h⟩ := h
  obtain rfl := Option.some.inj h
  exact w_zreturn dX10_isLetter_17 rfl (e_nz g3) (Nat.le_of_ble_eq_true rfl) (Nat.le_of_ble_eq_true rfl)
set_option maxRecDepth 100000 in
set_option maxHeartbeats 4000000 in
theorem l_X10_isLetter_16   (σ : aSt) (o : Int32 × aSt) (h : f_X10_isLetter_16   σ = some o) : AW true m_X10_isLetter 16 [] [] σ 0 0 (some (.int o.1)) o.2 := by
  unfold f_X10_isLetter_16 at h
  refine w_iconst (v := 0) dX10_isLetter_16 (by decide) ?_
  exact l_X10_isLetter_17 _ _ _ h
set_option maxRecDepth 100000 in
set_option maxHeartbeats 4000000 in
theorem c_X10_isLetter (p0 : Int32) (σ : aSt) (o : Int32 × aSt) (h : f_X10_isLetter p0 σ = some o) : AM true m_X10_isLetter [.int (p0)] σ (some (.int o.1)) o.2 := by
  refine AM_of2 (lv := [(0, Value.int (p0))]) (by decide +kernel) rfl (Nat.le_of_ble_eq_true rfl) ?_
  unfold f_X10_isLetter at h
  refine w_iload_n 0 dX10_isLetter_0 rfl rfl ?_
  refine w_bipush (v := 97) dX10_isLetter_1 (by decide) ?_
  refine w_icmp_lt 16 dX10_isLetter_3 (by decide) (fun c1 => ?_) (fun c1 => ?_)
  · replace h := e_t c1 h
    refine w_sub [] rfl ?_
    exact l_X10_isLetter_16 _ _ h
  · replace h := e_f c1 h
    refine w_iload_n 0 dX10_isLetter_6 rfl rfl ?_
    refine w_bipush (v := 122) dX10_isLetter_7 (by decide) ?_
    refine w_icmp_gt 16 dX10_isLetter_9 (by decide) (fun c2 => ?_) (fun c2 => ?_)
    · replace h := e_t c2 h
      refine w_sub [] rfl ?_
      exact l_X10_isLetter_16 _ _ h
    · replace h := e_f c2 h
      refine w_iconst (v := 1) dX10_isLetter_12 (by decide) ?_
      refine w_goto 17 dX10_isLetter_13 (by decide) ?_
      refine w_sub [] rfl ?_
      exact l_X10_isLetter_17 _ _ _ h
theorem dX10_isFigure_0 : decode cX10_isFigure 0 = .ok (.iload_n 0, 1) := by decide +kernel
theorem dX10_isFigure_1 : decode cX10_isFigure 1 = .ok (.bipush 48, 2) := by decide +kernel
theorem dX10_isFigure_3 : decode cX10_isFigure 3 = .ok (.if_icmp .lt 13, 3) := by decide +kernel
theorem dX10_isFigure_6 : decode cX10_isFigure 6 = .ok (.iload_n 0, 1) := by decide +kernel
theorem dX10_isFigure_7 : decode cX10_isFigure 7 = .ok (.bipush 57, 2) := by decide +kernel
theorem dX10_isFigure_9 : decode cX10_isFigure 9 = .ok (.if_icmp .gt 7, 3) := by decide +kernel
theorem dX10_isFigure_12 : decode cX10_isFigure 12 = .ok (.iconst 1, 1) := by decide +kernel
theorem dX10_isFigure_13 : decode cX10_isFigure 13 = .ok (.goto 4, 3) := by decide +kernel
theorem dX10_isFigure_16 : decode cX10_isFigure 16 = .ok (.iconst 0, 1) := by decide +kernel
theorem dX10_isFigure_17 : decode cX10_isFigure 17 = .ok (.ireturn, 1) := by decide +kernel
theorem kd_X10_isFigure : aKd m_X10_isFigure 1 := ⟨wd_24_4, wd_1_21, ⟨by decide +kernel, by decide +kernel, by decide +kernel⟩⟩
set_option maxRecDepth 100000 in
set_option maxHeartbeats 4000000 in
theorem l_X10_isFigure_17  (t0 : Int32) (σ : aSt) (o : Int32 × aSt) (h : f_X10_isFigure_17  t0 σ = some o) : AW true m_X10_isFigure 17 [] [.int (t0)] σ 0 0 (some (.int o.1)) o.2 := by
  unfold f_X10_isFigure_17 at h
  replace h := e_grd h; obtain ⟨g3, h⟩ := h
  obtain rfl := Option.some.inj h
  exact w_zreturn dX10_isFigure_17 rfl (e_nz g3) (Nat.le_of_ble_eq_true rfl) (Nat.le_of_ble_eq_true rfl)
set_option maxRecDepth 100000 in
set_option maxHeartbeats 4000000 in
theorem l_X10_isFigure_16   (σ : aSt) (o : Int32 × aSt) (h : f_X10_isFigure_16   σ = some o) : AW true m_X10_isFigure 16 [] [] σ 0 0 (some (.int o.1)) o.2 := by
  unfold f_X10_isFigure_16 at h
  refine w_iconst (v := 0) dX10_isFigure_16 (by decide) ?_
  exact l_X10_isFigure_17 _ _ _ h
set_option maxRecDepth 100000 in
set_option maxHeartbeats 4000000 in
theorem c_X10_isFigure (p0 : Int32) (σ : aSt) (o : Int32 × aSt) (h : f_X10_isFigure p0 σ = some o) : AM true m_X10_isFigure [.int (p0)] σ (some (.int o.1)) o.2 := by
  refine AM_of2 (lv := [(0, Value.int (p0))]) (by decide +kernel) rfl (Nat.le_of_ble_eq_true rfl) ?_
  unfold f_X10_isFigure at h
  refine w_iload_n 0 dX10_isFigure_0 rfl rfl ?_
  refine w_bipush (v := 48) dX10_isFigure_1 (by decide) ?_
  refine w_icmp_lt 16 dX10_isFigure_3 (by decide) (fun c1 => ?_) (fun c1 => ?_)
  · replace h := e_t c1 h
    refine w_sub [] rfl ?_
    exact l_X10_isFigure_16 _ _ h
  · replace h := e_f c1 h
    refine w_iload_n 0 dX10_isFigure_6 rfl rfl ?_
    refine w_bipush (v := 57) dX10_isFigure_7 (by decide) ?_
    refine w_icmp_gt 16 dX10_isFigure_9 (by decide) (fun c2 => ?_) (fun c2 => ?_)
    · replace h := e_t c2 h
      refine w_sub [] rfl ?_
      exact l_X10_isFigure_16 _ _ h
    · replace h := e_f c2 h
      refine w_iconst (v := 1) dX10_isFigure_12 (by decide) ?_
      refine w_goto 17 dX10_isFigure_13 (by decide) ?_
      refine w_sub [] rfl ?_
      exact l_X10_isFigure_17 _ _ _ h
theorem dX10_endOf_0 : decode cX10_endOf 0 = .ok (.iload_n 1, 1) := by decide +kernel
theorem dX10_endOf_1 : decode cX10_endOf 1 = .ok (.istore_n 2, 1) := by decide +kernel
theorem dX10_endOf_2 : decode cX10_endOf 2 = .ok (.iload_n 2, 1) := by decide +kernel
theorem dX10_endOf_3 : decode cX10_endOf 3 = .ok (.aload_n 0, 1) := by decide +kernel
theorem dX10_endOf_4 : decode cX10_endOf 4 = .ok (.getfield 19, 3) := by decide +kernel
theorem dX10_endOf_7 : decode cX10_endOf 7 = .ok (.if_icmp .ge 33, 3) := by decide +kernel
theorem dX10_endOf_10 : decode cX10_endOf 10 = .ok (.aload_n 0, 1) := by decide +kernel
theorem dX10_endOf_11 : decode cX10_endOf 11 = .ok (.getfield 23, 3) := by decide +kernel
theorem dX10_endOf_14 : decode cX10_endOf 14 = .ok (.iload_n 1, 1) := by decide +kernel
theorem dX10_endOf_15 : decode cX10_endOf 15 = .ok (.baload, 1) := by decide +kernel
theorem dX10_endOf_16 : decode cX10_endOf 16 = .ok (.invokestatic 48, 3) := by decide +kernel
theorem dX10_endOf_19 : decode cX10_endOf 19 = .ok (.ifCond .eq 21, 3) := by decide +kernel
theorem dX10_endOf_22 : decode cX10_endOf 22 = .ok (.aload_n 0, 1) := by decide +kernel
theorem dX10_endOf_23 : decode cX10_endOf 23 = .ok (.getfield 23, 3) := by decide +kernel
theorem dX10_endOf_26 : decode cX10_endOf 26 = .ok (.iload_n 2, 1) := by decide +kernel
theorem dX10_endOf_27 : decode cX10_endOf 27 = .ok (.baload, 1) := by decide +kernel
theorem dX10_endOf_28 : decode cX10_endOf 28 = .ok (.invokestatic 48, 3) := by decide +kernel
theorem dX10_endOf_31 : decode cX10_endOf 31 = .ok (.ifCond .eq 9, 3) := by decide +kernel
theorem dX10_endOf_34 : decode cX10_endOf 34 = .ok (.iinc 2 1, 3) := by decide +kernel
theorem dX10_endOf_37 : decode cX10_endOf 37 = .ok (.goto (-35), 3) := by decide +kernel
theorem dX10_endOf_40 : decode cX10_endOf 40 = .ok (.iload_n 2, 1) := by decide +kernel
theorem dX10_endOf_41 : decode cX10_endOf 41 = .ok (.aload_n 0, 1) := by decide +kernel
theorem dX10_endOf_42 : decode cX10_endOf 42 = .ok (.getfield 19, 3) := by decide +kernel
theorem dX10_endOf_45 : decode cX10_endOf 45 = .ok (.if_icmp .ge 33, 3) := by decide +kernel
theorem dX10_endOf_48 : decode cX10_endOf 48 = .ok (.aload_n 0, 1) := by decide +kernel
theorem dX10_endOf_49 : decode cX10_endOf 49 = .ok (.getfield 23, 3) := by decide +kernel
theorem dX10_endOf_52 : decode cX10_endOf 52 = .ok (.iload_n 1, 1) := by decide +kernel
theorem dX10_endOf_53 : decode cX10_endOf 53 = .ok (.baload, 1) := by decide +kernel
theorem dX10_endOf_54 : decode cX10_endOf 54 = .ok (.invokestatic 52, 3) := by decide +kernel
theorem dX10_endOf_57 : decode cX10_endOf 57 = .ok (.ifCond .eq 21, 3) := by decide +kernel
theorem dX10_endOf_60 : decode cX10_endOf 60 = .ok (.aload_n 0, 1) := by decide +kernel
theorem dX10_endOf_61 : decode cX10_endOf 61 = .ok (.getfield 23, 3) := by decide +kernel
theorem dX10_endOf_64 : decode cX10_endOf 64 = .ok (.iload_n 2, 1) := by decide +kernel
theorem dX10_endOf_65 : decode cX10_endOf 65 = .ok (.baload, 1) := by decide +kernel
theorem dX10_endOf_66 : decode cX10_endOf 66 = .ok (.invokestatic 52, 3) := by decide +kernel
theorem dX10_endOf_69 : decode cX10_endOf 69 = .ok (.ifCond .eq 9, 3) := by decide +kernel
theorem dX10_endOf_72 : decode cX10_endOf 72 = .ok (.iinc 2 1, 3) := by decide +kernel
theorem dX10_endOf_75 : decode cX10_endOf 75 = .ok (.goto (-35), 3) := by decide +kernel
theorem dX10_endOf_78 : decode cX10_endOf 78 = .ok (.iload_n 1, 1) := by decide +kernel
theorem dX10_endOf_79 : decode cX10_endOf 79 = .ok (.iconst 1, 1) := by decide +kernel
theorem dX10_endOf_80 : decode cX10_endOf 80 = .ok (.iadd, 1) := by decide +kernel
theorem dX10_endOf_81 : decode cX10_endOf 81 = .ok (.iload_n 2, 1) := by decide +kernel
theorem dX10_endOf_82 : decode cX10_endOf 82 = .ok (.invokestatic 38, 3) := by decide +kernel
theorem dX10_endOf_85 : decode cX10_endOf 85 = .ok (.ireturn, 1) := by decide +kernel
theorem kd_X10_endOf : aKd m_X10_endOf 1 := ⟨wd_23_22, wd_1_21, ⟨by decide +kernel, by decide +kernel, by decide +kernel⟩⟩
set_option maxRecDepth 100000 in
set_option maxHeartbeats 4000000 in
theorem l_X10_endOf_78  (x1 : Int32) (x2 : Int32) (σ : aSt) (o : Int32 × aSt) (h : f_X10_endOf_78  x1 x2 σ = some o) : AW true m_X10_endOf 78 [(1, Value.int (x1)), (2, Value.int (x2))] [] σ 0 0 (some (.int o.1)) o.2 := by
  unfold f_X10_endOf_78 at h
  refine w_iload_n 0 dX10_endOf_78 rfl rfl ?_
  refine w_iconst (v := 1) dX10_endOf_79 (by decide) ?_
  refine w_iadd dX10_endOf_80 ?_
  refine w_iload_n 1 dX10_endOf_81 rfl rfl ?_
  refine w_max dX10_endOf_82 wd_23_15 wd_23_16 wd_23_17 wd_23_18 (by decide) (by decide) (by decide) (by decide) ?_
  obtain rfl := Option.some.inj h
  exact w_ireturn dX10_endOf_85 rfl (Nat.le_of_ble_eq_true rfl) (Nat.le_of_ble_eq_true rfl)
set_option maxRecDepth 100000 in
set_option maxHeartbeats 4000000 in
theorem l_X10_endOf_40_b (rec40 : Int32 → Int32 → aSt → Option (Int32 × aSt)) (hrec40 : ∀ (x1 : Int32) (x2 : Int32) (σ : aSt) (o : Int32 × aSt), rec40 x1 x2 σ = some o → AW true m_X10_endOf 40 [(0, va_rf (some (5))), (1, Value.int (x1)), (2, Value.int (x2))] [] σ 0 0 (some (.int o.1)) o.2) (x1 : Int32) (x2 : Int32) (σ : aSt) (o : Int32 × aSt) (h : f_X10_endOf_40_b rec40 x1 x2 σ = some o) : AW true m_X10_endOf 40 [(0, va_rf (some (5))), (1, Value.int (x1)), (2, Value.int (x2))] [] σ 0 0 (some (.int o.1)) o.2 := by
  unfold f_X10_endOf_40_b at h
  refine w_iload_n 2 dX10_endOf_40 rfl rfl ?_
  refine w_aload_n 0 ((some (5))) dX10_endOf_41 rfl rfl ?_
  refine w_get dX10_endOf_42 fl_RX10_19 ⟨rfl, Or.inr ⟨rfl, by decide⟩⟩ (aFv_i rfl) ?_
  refine w_icmp_ge 78 dX10_endOf_45 (by decide) (fun c1 => ?_) (fun c1 => ?_)
  · replace h := e_t c1 h
    refine w_sub [1, 2] rfl ?_
    exact l_X10_endOf_78 _ _ _ _ h
  · replace h := e_f c1 h
    refine w_aload_n 0 ((some (5))) dX10_endOf_48 rfl rfl ?_
    refine w_get (v := va_rf (some 9)) dX10_endOf_49 fl_RX10_23 ⟨rfl, Or.inr ⟨rfl, by decide⟩⟩ (aFv_k rfl) ?_
    refine w_iload_n 1 dX10_endOf_52 rfl rfl ?_
    replace h := e_grd h; obtain ⟨b2, h⟩ := h
    refine w_baload dX10_endOf_53 ⟨rfl, Or.inr ⟨rfl, by decide⟩⟩ b2 ?_
    replace h := e_bind h; obtain ⟨q3, e4, h⟩ := h
    refine w_callS1 (M2 := m_X10_isFigure) (av := [.int (gI σ 9 x1.toNatClampNeg)]) (c_X10_isFigure _ _ _ e4) dX10_endOf_54 kd_X10_isFigure wd_24_2 wd_24_3 rfl rfl ⟨Nat.le_of_ble_eq_true rfl, Nat.le_of_ble_eq_true rfl, Nat.le_of_ble_eq_true rfl, Nat.le_of_ble_eq_true rfl⟩ (Nat.le_of_ble_eq_true rfl) ?_
    refine w_if_eq 78 dX10_endOf_57 (by decide) (fun c5 => ?_) (fun c5 => ?_)
    · replace h := e_t c5 h
      refine w_sub [1, 2] rfl ?_
      exact l_X10_endOf_78 _ _ _ _ h
    · replace h := e_f c5 h
      refine w_aload_n 0 ((some (5))) dX10_endOf_60 rfl rfl ?_
      refine w_get (v := va_rf (some 9)) dX10_endOf_61 fl_RX10_23 ⟨rfl, Or.inr ⟨rfl, by decide⟩⟩ (aFv_k rfl) ?_
      refine w_iload_n 2 dX10_endOf_64 rfl rfl ?_
      replace h := e_grd h; obtain ⟨b6, h⟩ := h
      refine w_baload dX10_endOf_65 ⟨rfl, Or.inr ⟨rfl, by decide⟩⟩ b6 ?_
      replace h := e_bind h; obtain ⟨q7, e8, h⟩ := h
      refine w_callS1 (M2 := m_X10_isFigure) (av := [.int (gI q3.2 9 x2.toNatClampNeg)]) (c_X10_isFigure _ _ _ e8) dX10_endOf_66 kd_X10_isFigure wd_24_2 wd_24_3 rfl rfl ⟨Nat.le_of_ble_eq_true rfl, Nat.le_of_ble_eq_true rfl, Nat.le_of_ble_eq_true rfl, Nat.le_of_ble_eq_true rfl⟩ (Nat.le_of_ble_eq_true rfl) ?_
      refine w_if_eq 78 dX10_endOf_69 (by decide) (fun c9 => ?_) (fun c9 => ?_)
      · replace h := e_t c9 h
        refine w_sub [1, 2] rfl ?_
        exact l_X10_endOf_78 _ _ _ _ h
      · replace h := e_f c9 h
        refine w_iinc (q := 2) (v := x2 + 1) dX10_endOf_72 rfl rfl (by decide) rfl ?_
        refine w_goto 40 dX10_endOf_75 (by decide) ?_
        refine w_sub [1, 2, 0] rfl ?_
        exact hrec40 _ _ _ _ h
theorem l_X10_endOf_40  : ∀ (n : Nat) (x1 : Int32) (x2 : Int32) (σ : aSt) (o : Int32 × aSt), f_X10_endOf_40  n x1 x2 σ = some o → AW true m_X10_endOf 40 [(0, va_rf (some (5))), (1, Value.int (x1)), (2, Value.int (x2))] [] σ 0 0 (some (.int o.1)) o.2
  | 0 => fun x1 x2 σ o h => by cases h
  | n + 1 => fun x1 x2 σ o h => l_X10_endOf_40_b (f_X10_endOf_40  n) (l_X10_endOf_40  n) x1 x2 σ o h
set_option maxRecDepth 100000 in
set_option maxHeartbeats 4000000 in
theorem l_X10_endOf_2_b (rec2 : Int32 → Int32 → aSt → Option (Int32 × aSt)) (hrec2 : ∀ (x1 : Int32) (x2 : Int32) (σ : aSt) (o : Int32 × aSt), rec2 x1 x2 σ = some o → AW true m_X10_endOf 2 [(0, va_rf (some (5))), (1, Value.int (x1)), (2, Value.int (x2))] [] σ 0 0 (some (.int o.1)) o.2) (x1 : Int32) (x2 : Int32) (σ : aSt) (o : Int32 × aSt) (h : f_X10_endOf_2_b rec2 x1 x2 σ = some o) : AW true m_X10_endOf 2 [(0, va_rf (some (5))), (1, Value.int (x1)), (2, Value.int (x2))] [] σ 0 0 (some (.int o.1)) o.2 := by
  unfold f_X10_endOf_2_b at h
  refine w_iload_n 2 dX10_endOf_2 rfl rfl ?_
  refine w_aload_n 0 ((some (5))) dX10_endOf_3 rfl rfl ?_
  refine w_get dX10_endOf_4 fl_RX10_19 ⟨rfl, Or.inr ⟨rfl, by decide⟩⟩ (aFv_i rfl) ?_
  refine w_icmp_ge 40 dX10_endOf_7 (by decide) (fun c10 => ?_) (fun c10 => ?_)
  · replace h := e_t c10 h
    exact l_X10_endOf_40 aN _ _ _ _ h
  · replace h := e_f c10 h
    refine w_aload_n 0 ((some (5))) dX10_endOf_10 rfl rfl ?_
    refine w_get (v := va_rf (some 9)) dX10_endOf_11 fl_RX10_23 ⟨rfl, Or.inr ⟨rfl, by decide⟩⟩ (aFv_k rfl) ?_
    refine w_iload_n 1 dX10_endOf_14 rfl rfl ?_
    replace h := e_grd h; obtain ⟨b11, h⟩ := h
    refine w_baload dX10_endOf_15 ⟨rfl, Or.inr ⟨rfl, by decide⟩⟩ b11 ?_
    replace h := e_bind h; obtain ⟨q12, e13, h⟩ := h
    refine w_callS1 (M2 := m_X10_isLetter) (av := [.int (gI σ 9 x1.toNatClampNeg)]) (c_X10_isLetter _ _ _ e13) dX10_endOf_16 kd_X10_isLetter wd_23_23 wd_24_0 rfl rfl ⟨Nat.le_of_ble_eq_true rfl, Nat.le_of_ble_eq_true rfl, Nat.le_of_ble_eq_true rfl, Nat.le_of_ble_eq_true rfl⟩ (Nat.le_of_ble_eq_true rfl) ?_
    refine w_if_eq 40 dX10_endOf_19 (by decide) (fun c14 => ?_) (fun c14 => ?_)
    · replace h := e_t c14 h
      exact l_X10_endOf_40 aN _ _ _ _ h
    · replace h := e_f c14 h
      refine w_aload_n 0 ((some (5))) dX10_endOf_22 rfl rfl ?_
      refine w_get (v := va_rf (some 9)) dX10_endOf_23 fl_RX10_23 ⟨rfl, Or.inr ⟨rfl, by decide⟩⟩ (aFv_k rfl) ?_
      refine w_iload_n 2 dX10_endOf_26 rfl rfl ?_
      replace h := e_grd h; obtain ⟨b15, h⟩ := h
      refine w_baload dX10_endOf_27 ⟨rfl, Or.inr ⟨rfl, by decide⟩⟩ b15 ?_
      replace h := e_bind h; obtain ⟨q16, e17, h⟩ := h
      refine w_callS1 (M2 := m_X10_isLetter) (av := [.int (gI q12.2 9 x2.toNatClampNeg)]) (c_X10_isLetter _ _ _ e17) dX10_endOf_28 kd_X10_isLetter wd_23_23 wd_24_0 rfl rfl ⟨Nat.le_of_ble_eq_true rfl, Nat.le_of_ble_eq_true rfl, Nat.le_of_ble_eq_true rfl, Nat.le_of_ble_eq_true rfl⟩ (Nat.le_of_ble_eq_true rfl) ?_
      refine w_if_eq 40 dX10_endOf_31 (by decide) (fun c18 => ?_) (fun c18 => ?_)
      · replace h := e_t c18 h
        exact l_X10_endOf_40 aN _ _ _ _ h
      · replace h := e_f c18 h
        refine w_iinc (q := 2) (v := x2 + 1) dX10_endOf_34 rfl rfl (by decide) rfl ?_
        refine w_goto 2 dX10_endOf_37 (by decide) ?_
        refine w_sub [1, 2, 0] rfl ?_
        exact hrec2 _ _ _ _ h
theorem l_X10_endOf_2  : ∀ (n : Nat) (x1 : Int32) (x2 : Int32) (σ : aSt) (o : Int32 × aSt), f_X10_endOf_2  n x1 x2 σ = some o → AW true m_X10_endOf 2 [(0, va_rf (some (5))), (1, Value.int (x1)), (2, Value.int (x2))] [] σ 0 0 (some (.int o.1)) o.2
  | 0 => fun x1 x2 σ o h => by cases h
  | n + 1 => fun x1 x2 σ o h => l_X10_endOf_2_b (f_X10_endOf_2  n) (l_X10_endOf_2  n) x1 x2 σ o h
set_option maxRecDepth 100000 in
set_option maxHeartbeats 4000000 in
theorem c_X10_endOf (p1 : Int32) (σ : aSt) (o : Int32 × aSt) (h : f_X10_endOf p1 σ = some o) : AM true m_X10_endOf [va_rf (some (5)), .int (p1)] σ (some (.int o.1)) o.2 := by
  refine AM_of2 (lv := [(0, va_rf (some (5))), (1, Value.int (p1))]) (by decide +kernel) rfl (Nat.le_of_ble_eq_true rfl) ?_
  unfold f_X10_endOf at h
  refine w_iload_n 1 dX10_endOf_0 rfl rfl ?_
  refine w_istore_n dX10_endOf_1 rfl (by decide) rfl ?_
  refine w_sub [1, 2, 0] rfl ?_
  exact l_X10_endOf_2 aN _ _ _ _ h
theorem dX10_keep_0 : decode cX10_keep 0 = .ok (.aload_n 0, 1) := by decide +kernel
theorem dX10_keep_1 : decode cX10_keep 1 = .ok (.getfield 27, 3) := by decide +kernel
theorem dX10_keep_4 : decode cX10_keep 4 = .ok (.sipush 600, 3) := by decide +kernel
theorem dX10_keep_7 : decode cX10_keep 7 = .ok (.if_icmp .gt 43, 3) := by decide +kernel
theorem dX10_keep_10 : decode cX10_keep 10 = .ok (.aload_n 0, 1) := by decide +kernel
theorem dX10_keep_11 : decode cX10_keep 11 = .ok (.getfield 9, 3) := by decide +kernel
theorem dX10_keep_14 : decode cX10_keep 14 = .ok (.aload_n 0, 1) := by decide +kernel
theorem dX10_keep_15 : decode cX10_keep 15 = .ok (.getfield 27, 3) := by decide +kernel
theorem dX10_keep_18 : decode cX10_keep 18 = .ok (.iload_n 1, 1) := by decide +kernel
theorem dX10_keep_19 : decode cX10_keep 19 = .ok (.iastore, 1) := by decide +kernel
theorem dX10_keep_20 : decode cX10_keep 20 = .ok (.aload_n 0, 1) := by decide +kernel
theorem dX10_keep_21 : decode cX10_keep 21 = .ok (.getfield 13, 3) := by decide +kernel
theorem dX10_keep_24 : decode cX10_keep 24 = .ok (.aload_n 0, 1) := by decide +kernel
theorem dX10_keep_25 : decode cX10_keep 25 = .ok (.getfield 27, 3) := by decide +kernel
theorem dX10_keep_28 : decode cX10_keep 28 = .ok (.iload_n 2, 1) := by decide +kernel
theorem dX10_keep_29 : decode cX10_keep 29 = .ok (.iastore, 1) := by decide +kernel
theorem dX10_keep_30 : decode cX10_keep 30 = .ok (.aload_n 0, 1) := by decide +kernel
theorem dX10_keep_31 : decode cX10_keep 31 = .ok (.getfield 16, 3) := by decide +kernel
theorem dX10_keep_34 : decode cX10_keep 34 = .ok (.aload_n 0, 1) := by decide +kernel
theorem dX10_keep_35 : decode cX10_keep 35 = .ok (.getfield 27, 3) := by decide +kernel
theorem dX10_keep_38 : decode cX10_keep 38 = .ok (.iload_n 3, 1) := by decide +kernel
theorem dX10_keep_39 : decode cX10_keep 39 = .ok (.iastore, 1) := by decide +kernel
theorem dX10_keep_40 : decode cX10_keep 40 = .ok (.aload_n 0, 1) := by decide +kernel
theorem dX10_keep_41 : decode cX10_keep 41 = .ok (.dup, 1) := by decide +kernel
theorem dX10_keep_42 : decode cX10_keep 42 = .ok (.getfield 27, 3) := by decide +kernel
theorem dX10_keep_45 : decode cX10_keep 45 = .ok (.iconst 1, 1) := by decide +kernel
theorem dX10_keep_46 : decode cX10_keep 46 = .ok (.iadd, 1) := by decide +kernel
theorem dX10_keep_47 : decode cX10_keep 47 = .ok (.putfield 27, 3) := by decide +kernel
theorem dX10_keep_50 : decode cX10_keep 50 = .ok (.return_, 1) := by decide +kernel
theorem kd_X10_keep : aKd m_X10_keep 3 := ⟨wd_24_12, wd_1_21, ⟨by decide +kernel, by decide +kernel, by decide +kernel⟩⟩
set_option maxRecDepth 100000 in
set_option maxHeartbeats 4000000 in
theorem l_X10_keep_50   (σ : aSt) (o : Unit × aSt) (h : f_X10_keep_50   σ = some o) : AW true m_X10_keep 50 [] [] σ 0 0 none o.2 := by
  unfold f_X10_keep_50 at h
  obtain rfl := Option.some.inj h
  exact w_vreturn dX10_keep_50 rfl (Nat.le_of_ble_eq_true rfl) (Nat.le_of_ble_eq_true rfl)
set_option maxRecDepth 100000 in
set_option maxHeartbeats 4000000 in
theorem l_X10_keep_40   (σ : aSt) (o : Unit × aSt) (h : f_X10_keep_40   σ = some o) : AW true m_X10_keep 40 [(0, va_rf (some (5)))] [] σ 0 0 none o.2 := by
  unfold f_X10_keep_40 at h
  refine w_aload_n 0 ((some (5))) dX10_keep_40 rfl rfl ?_
  refine w_dup dX10_keep_41 (aRf_cat _) ?_
  refine w_get dX10_keep_42 fl_RX10_27 ⟨rfl, Or.inr ⟨rfl, by decide⟩⟩ (aFv_i rfl) ?_
  refine w_iconst (v := 1) dX10_keep_45 (by decide) ?_
  refine w_iadd dX10_keep_46 ?_
  refine w_putI dX10_keep_47 fl_RX10_27 (Or.inl rfl) rfl ⟨rfl, Or.inr ⟨rfl, by decide⟩⟩ ?_
  refine w_sub [] rfl ?_
  exact l_X10_keep_50 _ _ h
set_option maxRecDepth 100000 in
set_option maxHeartbeats 4000000 in
theorem c_X10_keep (p1 : Int32) (p2 : Int32) (p3 : Int32) (σ : aSt) (o : Unit × aSt) (h : f_X10_keep p1 p2 p3 σ = some o) : AM true m_X10_keep [va_rf (some (5)), .int (p1), .int (p2), .int (p3)] σ none o.2 := by
  refine AM_of2 (lv := [(0, va_rf (some (5))), (1, Value.int (p1)), (2, Value.int (p2)), (3, Value.int (p3))]) (by decide +kernel) rfl (Nat.le_of_ble_eq_true rfl) ?_
  unfold f_X10_keep at h
  refine w_aload_n 0 ((some (5))) dX10_keep_0 rfl rfl ?_
  refine w_get dX10_keep_1 fl_RX10_27 ⟨rfl, Or.inr ⟨rfl, by decide⟩⟩ (aFv_i rfl) ?_
  refine w_sipush (v := 600) dX10_keep_4 (by decide) ?_
  refine w_icmp_gt 50 dX10_keep_7 (by decide) (fun c1 => ?_) (fun c1 => ?_)
  · replace h := e_t c1 h
    refine w_sub [] rfl ?_
    exact l_X10_keep_50 _ _ h
  · replace h := e_f c1 h
    refine w_aload_n 0 ((some (5))) dX10_keep_10 rfl rfl ?_
    refine w_get (v := va_rf (some 6)) dX10_keep_11 fl_RX10_9 ⟨rfl, Or.inr ⟨rfl, by decide⟩⟩ (aFv_k rfl) ?_
    refine w_aload_n 0 ((some (5))) dX10_keep_14 rfl rfl ?_
    refine w_get dX10_keep_15 fl_RX10_27 ⟨rfl, Or.inr ⟨rfl, by decide⟩⟩ (aFv_i rfl) ?_
    refine w_iload_n 1 dX10_keep_18 rfl rfl ?_
    replace h := e_grd h; obtain ⟨b2, h⟩ := h
    refine w_iastore dX10_keep_19 ⟨rfl, Or.inr ⟨rfl, by decide⟩⟩ b2 ?_
    refine w_aload_n 0 ((some (5))) dX10_keep_20 rfl rfl ?_
    refine w_get (v := va_rf (some 7)) dX10_keep_21 fl_RX10_13 ⟨rfl, Or.inr ⟨rfl, by decide⟩⟩ (aFv_k rfl) ?_
    refine w_aload_n 0 ((some (5))) dX10_keep_24 rfl rfl ?_
    refine w_get dX10_keep_25 fl_RX10_27 ⟨rfl, Or.inr ⟨rfl, by decide⟩⟩ (aFv_i rfl) ?_
    refine w_iload_n 2 dX10_keep_28 rfl rfl ?_
    replace h := e_grd h; obtain ⟨b3, h⟩ := h
    refine w_iastore dX10_keep_29 ⟨rfl, Or.inr ⟨rfl, by decide⟩⟩ b3 ?_
    refine w_aload_n 0 ((some (5))) dX10_keep_30 rfl rfl ?_
    refine w_get (v := va_rf (some 8)) dX10_keep_31 fl_RX10_16 ⟨rfl, Or.inr ⟨rfl, by decide⟩⟩ (aFv_k rfl) ?_
    refine w_aload_n 0 ((some (5))) dX10_keep_34 rfl rfl ?_
    refine w_get dX10_keep_35 fl_RX10_27 ⟨rfl, Or.inr ⟨rfl, by decide⟩⟩ (aFv_i rfl) ?_
    refine w_iload_n 3 dX10_keep_38 rfl rfl ?_
    replace h := e_grd h; obtain ⟨b4, h⟩ := h
    refine w_iastore dX10_keep_39 ⟨rfl, Or.inr ⟨rfl, by decide⟩⟩ b4 ?_
    refine w_sub [0] rfl ?_
    exact l_X10_keep_40 _ _ h
theorem dX10_isSpelt_0 : decode cX10_isSpelt 0 = .ok (.iload_n 1, 1) := by decide +kernel
theorem dX10_isSpelt_1 : decode cX10_isSpelt 1 = .ok (.iload_n 3, 1) := by decide +kernel
theorem dX10_isSpelt_2 : decode cX10_isSpelt 2 = .ok (.iadd, 1) := by decide +kernel
theorem dX10_isSpelt_3 : decode cX10_isSpelt 3 = .ok (.ldc 65, 2) := by decide +kernel
theorem dX10_isSpelt_5 : decode cX10_isSpelt 5 = .ok (.invokevirtual 67, 3) := by decide +kernel
theorem dX10_isSpelt_8 : decode cX10_isSpelt 8 = .ok (.if_icmp .ge 16, 3) := by decide +kernel
theorem dX10_isSpelt_11 : decode cX10_isSpelt 11 = .ok (.ldc 65, 2) := by decide +kernel
theorem dX10_isSpelt_13 : decode cX10_isSpelt 13 = .ok (.iload_n 1, 1) := by decide +kernel
theorem dX10_isSpelt_14 : decode cX10_isSpelt 14 = .ok (.iload_n 3, 1) := by decide +kernel
theorem dX10_isSpelt_15 : decode cX10_isSpelt 15 = .ok (.iadd, 1) := by decide +kernel
theorem dX10_isSpelt_16 : decode cX10_isSpelt 16 = .ok (.invokevirtual 73, 3) := by decide +kernel
theorem dX10_isSpelt_19 : decode cX10_isSpelt 19 = .ok (.bipush 32, 2) := by decide +kernel
theorem dX10_isSpelt_21 : decode cX10_isSpelt 21 = .ok (.if_icmp .eq 5, 3) := by decide +kernel
theorem dX10_isSpelt_24 : decode cX10_isSpelt 24 = .ok (.iconst 0, 1) := by decide +kernel
theorem dX10_isSpelt_25 : decode cX10_isSpelt 25 = .ok (.ireturn, 1) := by decide +kernel
theorem dX10_isSpelt_26 : decode cX10_isSpelt 26 = .ok (.iconst 0, 1) := by decide +kernel
theorem dX10_isSpelt_27 : decode cX10_isSpelt 27 = .ok (.istore 4, 2) := by decide +kernel
theorem dX10_isSpelt_29 : decode cX10_isSpelt 29 = .ok (.iload 4, 2) := by decide +kernel
theorem dX10_isSpelt_31 : decode cX10_isSpelt 31 = .ok (.iload_n 3, 1) := by decide +kernel
theorem dX10_isSpelt_32 : decode cX10_isSpelt 32 = .ok (.if_icmp .ge 43, 3) := by decide +kernel
theorem dX10_isSpelt_35 : decode cX10_isSpelt 35 = .ok (.iload_n 2, 1) := by decide +kernel
theorem dX10_isSpelt_36 : decode cX10_isSpelt 36 = .ok (.iload 4, 2) := by decide +kernel
theorem dX10_isSpelt_38 : decode cX10_isSpelt 38 = .ok (.iadd, 1) := by decide +kernel
theorem dX10_isSpelt_39 : decode cX10_isSpelt 39 = .ok (.aload_n 0, 1) := by decide +kernel
theorem dX10_isSpelt_40 : decode cX10_isSpelt 40 = .ok (.getfield 19, 3) := by decide +kernel
theorem dX10_isSpelt_43 : decode cX10_isSpelt 43 = .ok (.if_icmp .ge 32, 3) := by decide +kernel
theorem dX10_isSpelt_46 : decode cX10_isSpelt 46 = .ok (.ldc 65, 2) := by decide +kernel
theorem dX10_isSpelt_48 : decode cX10_isSpelt 48 = .ok (.iload_n 1, 1) := by decide +kernel
theorem dX10_isSpelt_49 : decode cX10_isSpelt 49 = .ok (.iload 4, 2) := by decide +kernel
theorem dX10_isSpelt_51 : decode cX10_isSpelt 51 = .ok (.iadd, 1) := by decide +kernel
theorem dX10_isSpelt_52 : decode cX10_isSpelt 52 = .ok (.invokevirtual 73, 3) := by decide +kernel
theorem dX10_isSpelt_55 : decode cX10_isSpelt 55 = .ok (.aload_n 0, 1) := by decide +kernel
theorem dX10_isSpelt_56 : decode cX10_isSpelt 56 = .ok (.getfield 23, 3) := by decide +kernel
theorem dX10_isSpelt_59 : decode cX10_isSpelt 59 = .ok (.iload_n 2, 1) := by decide +kernel
theorem dX10_isSpelt_60 : decode cX10_isSpelt 60 = .ok (.iload 4, 2) := by decide +kernel
theorem dX10_isSpelt_62 : decode cX10_isSpelt 62 = .ok (.iadd, 1) := by decide +kernel
theorem dX10_isSpelt_63 : decode cX10_isSpelt 63 = .ok (.baload, 1) := by decide +kernel
theorem dX10_isSpelt_64 : decode cX10_isSpelt 64 = .ok (.if_icmp .eq 5, 3) := by decide +kernel
theorem dX10_isSpelt_67 : decode cX10_isSpelt 67 = .ok (.iconst 0, 1) := by decide +kernel
theorem dX10_isSpelt_68 : decode cX10_isSpelt 68 = .ok (.ireturn, 1) := by decide +kernel
theorem dX10_isSpelt_69 : decode cX10_isSpelt 69 = .ok (.iinc 4 1, 3) := by decide +kernel
theorem dX10_isSpelt_72 : decode cX10_isSpelt 72 = .ok (.goto (-43), 3) := by decide +kernel
theorem dX10_isSpelt_75 : decode cX10_isSpelt 75 = .ok (.iconst 1, 1) := by decide +kernel
theorem dX10_isSpelt_76 : decode cX10_isSpelt 76 = .ok (.ireturn, 1) := by decide +kernel
theorem kd_X10_isSpelt : aKd m_X10_isSpelt 3 := ⟨wd_24_20, wd_1_21, ⟨by decide +kernel, by decide +kernel, by decide +kernel⟩⟩
set_option maxRecDepth 100000 in
set_option maxHeartbeats 4000000 in
theorem l_X10_isSpelt_24   (σ : aSt) (o : Int32 × aSt) (h : f_X10_isSpelt_24   σ = some o) : AW true m_X10_isSpelt 24 [] [] σ 0 0 (some (.int o.1)) o.2 := by
  unfold f_X10_isSpelt_24 at h
  refine w_iconst (v := 0) dX10_isSpelt_24 (by decide) ?_
  obtain rfl := Option.some.inj h
  exact w_zreturn dX10_isSpelt_25 rfl rfl (Nat.le_of_ble_eq_true rfl) (Nat.le_of_ble_eq_true rfl)
set_option maxRecDepth 100000 in
set_option maxHeartbeats 4000000 in
theorem l_X10_isSpelt_75   (σ : aSt) (o : Int32 × aSt) (h : f_X10_isSpelt_75   σ = some o) : AW true m_X10_isSpelt 75 [] [] σ 0 0 (some (.int o.1)) o.2 := by
  unfold f_X10_isSpelt_75 at h
  refine w_iconst (v := 1) dX10_isSpelt_75 (by decide) ?_
  obtain rfl := Option.some.inj h
  exact w_zreturn dX10_isSpelt_76 rfl rfl (Nat.le_of_ble_eq_true rfl) (Nat.le_of_ble_eq_true rfl)
set_option maxRecDepth 100000 in
set_option maxHeartbeats 4000000 in
theorem l_X10_isSpelt_29_b (rec29 : Int32 → Int32 → Int32 → Int32 → aSt → Option (Int32 × aSt)) (hrec29 : ∀ (x1 : Int32) (x2 : Int32) (x3 : Int32) (x4 : Int32) (σ : aSt) (o : Int32 × aSt), rec29 x1 x2 x3 x4 σ = some o → AW true m_X10_isSpelt 29 [(0, va_rf (some (5))), (1, Value.int (x1)), (2, Value.int (x2)), (3, Value.int (x3)), (4, Value.int (x4))] [] σ 0 0 (some (.int o.1)) o.2) (x1 : Int32) (x2 : Int32) (x3 : Int32) (x4 : Int32) (σ : aSt) (o : Int32 × aSt) (h : f_X10_isSpelt_29_b rec29 x1 x2 x3 x4 σ = some o) : AW true m_X10_isSpelt 29 [(0, va_rf (some (5))), (1, Value.int (x1)), (2, Value.int (x2)), (3, Value.int (x3)), (4, Value.int (x4))] [] σ 0 0 (some (.int o.1)) o.2 := by
  unfold f_X10_isSpelt_29_b at h
  refine w_iload 4 dX10_isSpelt_29 rfl ?_
  refine w_iload_n 3 dX10_isSpelt_31 rfl rfl ?_
  refine w_icmp_ge 75 dX10_isSpelt_32 (by decide) (fun c4 => ?_) (fun c4 => ?_)
  · replace h := e_t c4 h
    refine w_sub [] rfl ?_
    exact l_X10_isSpelt_75 _ _ h
  · replace h := e_f c4 h
    refine w_iload_n 2 dX10_isSpelt_35 rfl rfl ?_
    refine w_iload 4 dX10_isSpelt_36 rfl ?_
    refine w_iadd dX10_isSpelt_38 ?_
    refine w_aload_n 0 ((some (5))) dX10_isSpelt_39 rfl rfl ?_
    refine w_get dX10_isSpelt_40 fl_RX10_19 ⟨rfl, Or.inr ⟨rfl, by decide⟩⟩ (aFv_i rfl) ?_
    refine w_icmp_ge 75 dX10_isSpelt_43 (by decide) (fun c5 => ?_) (fun c5 => ?_)
    · replace h := e_t c5 h
      refine w_sub [] rfl ?_
      exact l_X10_isSpelt_75 _ _ h
    · replace h := e_f c5 h
      replace h := e_grd h; obtain ⟨b6, h⟩ := h
      refine w_strChar2 1 4 rfl dX10_isSpelt_46 dX10_isSpelt_48 dX10_isSpelt_49 dX10_isSpelt_51 dX10_isSpelt_52 rfl rfl b6 rfl (by decide) (by decide) (Nat.le_of_ble_eq_true rfl) ?_
      refine w_aload_n 0 ((some (5))) dX10_isSpelt_55 rfl rfl ?_
      refine w_get (v := va_rf (some 9)) dX10_isSpelt_56 fl_RX10_23 ⟨rfl, Or.inr ⟨rfl, by decide⟩⟩ (aFv_k rfl) ?_
      refine w_iload_n 2 dX10_isSpelt_59 rfl rfl ?_
      refine w_iload 4 dX10_isSpelt_60 rfl ?_
      refine w_iadd dX10_isSpelt_62 ?_
      replace h := e_grd h; obtain ⟨b7, h⟩ := h
      refine w_baload dX10_isSpelt_63 ⟨rfl, Or.inr ⟨rfl, by decide⟩⟩ b7 ?_
      refine w_icmp_eq 69 dX10_isSpelt_64 (by decide) (fun c8 => ?_) (fun c8 => ?_)
      · replace h := e_t c8 h
        refine w_iinc (q := 4) (v := x4 + 1) dX10_isSpelt_69 rfl rfl (by decide) rfl ?_
        refine w_goto 29 dX10_isSpelt_72 (by decide) ?_
        refine w_sub [1, 2, 3, 4, 0] rfl ?_
        exact hrec29 _ _ _ _ _ _ h
      · replace h := e_f c8 h
        refine w_iconst (v := 0) dX10_isSpelt_67 (by decide) ?_
        obtain rfl := Option.some.inj h
        exact w_zreturn dX10_isSpelt_68 rfl rfl (Nat.le_of_ble_eq_true rfl) (Nat.le_of_ble_eq_true rfl)
theorem l_X10_isSpelt_29  : ∀ (n : Nat) (x1 : Int32) (x2 : Int32) (x3 : Int32) (x4 : Int32) (σ : aSt) (o : Int32 × aSt), f_X10_isSpelt_29  n x1 x2 x3 x4 σ = some o → AW true m_X10_isSpelt 29 [(0, va_rf (some (5))), (1, Value.int (x1)), (2, Value.int (x2)), (3, Value.int (x3)), (4, Value.int (x4))] [] σ 0 0 (some (.int o.1)) o.2
  | 0 => fun x1 x2 x3 x4 σ o h => by cases h
  | n + 1 => fun x1 x2 x3 x4 σ o h => l_X10_isSpelt_29_b (f_X10_isSpelt_29  n) (l_X10_isSpelt_29  n) x1 x2 x3 x4 σ o h
set_option maxRecDepth 100000 in
set_option maxHeartbeats 4000000 in
theorem c_X10_isSpelt (p1 : Int32) (p2 : Int32) (p3 : Int32) (σ : aSt) (o : Int32 × aSt) (h : f_X10_isSpelt p1 p2 p3 σ = some o) : AM true m_X10_isSpelt [va_rf (some (5)), .int (p1), .int (p2), .int (p3)] σ (some (.int o.1)) o.2 := by
  refine AM_of2 (lv := [(0, va_rf (some (5))), (1, Value.int (p1)), (2, Value.int (p2)), (3, Value.int (p3))]) (by decide +kernel) rfl (Nat.le_of_ble_eq_true rfl) ?_
  unfold f_X10_isSpelt at h
  refine w_iload_n 1 dX10_isSpelt_0 rfl rfl ?_
  refine w_iload_n 3 dX10_isSpelt_1 rfl rfl ?_
  refine w_iadd dX10_isSpelt_2 ?_
  refine w_strLen rfl dX10_isSpelt_3 dX10_isSpelt_5 (by decide) (by decide) (Nat.le_of_ble_eq_true rfl) ?_
  refine w_icmp_ge 24 dX10_isSpelt_8 (by decide) (fun c1 => ?_) (fun c1 => ?_)
  · replace h := e_t c1 h
    refine w_sub [] rfl ?_
    exact l_X10_isSpelt_24 _ _ h
  · replace h := e_f c1 h
    replace h := e_grd h; obtain ⟨b2, h⟩ := h
    refine w_strChar1 1 3 rfl dX10_isSpelt_11 dX10_isSpelt_13 dX10_isSpelt_14 dX10_isSpelt_15 dX10_isSpelt_16 rfl rfl b2 rfl (by decide) (by decide) (Nat.le_of_ble_eq_true rfl) ?_
    refine w_bipush (v := 32) dX10_isSpelt_19 (by decide) ?_
    refine w_icmp_eq 26 dX10_isSpelt_21 (by decide) (fun c3 => ?_) (fun c3 => ?_)
    · replace h := e_t c3 h
      refine w_iconst (v := 0) dX10_isSpelt_26 (by decide) ?_
      refine w_istore dX10_isSpelt_27 (by decide) rfl ?_
      refine w_sub [1, 2, 3, 4, 0] rfl ?_
      exact l_X10_isSpelt_29 aN _ _ _ _ _ _ h
    · replace h := e_f c3 h
      refine w_sub [] rfl ?_
      exact l_X10_isSpelt_24 _ _ h
