theorem dX12_counted_0 : decode cX12_counted 0 = .ok (.aload_n 0, 1) := by decide +kernel
theorem dX12_counted_1 : decode cX12_counted 1 = .ok (.iconst 0, 1) := by decide +kernel
theorem dX12_counted_2 : decode cX12_counted 2 = .ok (.putfield 102, 3) := by decide +kernel
theorem dX12_counted_5 : decode cX12_counted 5 = .ok (.iload_n 1, 1) := by decide +kernel
theorem dX12_counted_6 : decode cX12_counted 6 = .ok (.i2l, 1) := by decide +kernel
theorem dX12_counted_7 : decode cX12_counted 7 = .ok (.lconst 0, 1) := by decide +kernel
theorem dX12_counted_8 : decode cX12_counted 8 = .ok (.ldc2_w 337, 3) := by decide +kernel
theorem dX12_counted_11 : decode cX12_counted 11 = .ok (.invokestatic 111, 3) := by decide +kernel
theorem dX12_counted_14 : decode cX12_counted 14 = .ok (.ifCond .eq 28, 3) := by decide +kernel
theorem dX12_counted_17 : decode cX12_counted 17 = .ok (.iload_n 2, 1) := by decide +kernel
theorem dX12_counted_18 : decode cX12_counted 18 = .ok (.i2l, 1) := by decide +kernel
theorem dX12_counted_19 : decode cX12_counted 19 = .ok (.iload_n 1, 1) := by decide +kernel
theorem dX12_counted_20 : decode cX12_counted 20 = .ok (.i2l, 1) := by decide +kernel
theorem dX12_counted_21 : decode cX12_counted 21 = .ok (.ldc2_w 337, 3) := by decide +kernel
theorem dX12_counted_24 : decode cX12_counted 24 = .ok (.invokestatic 111, 3) := by decide +kernel
theorem dX12_counted_27 : decode cX12_counted 27 = .ok (.ifCond .eq 15, 3) := by decide +kernel
theorem dX12_counted_30 : decode cX12_counted 30 = .ok (.iload_n 3, 1) := by decide +kernel
theorem dX12_counted_31 : decode cX12_counted 31 = .ok (.i2l, 1) := by decide +kernel
theorem dX12_counted_32 : decode cX12_counted 32 = .ok (.lconst 0, 1) := by decide +kernel
theorem dX12_counted_33 : decode cX12_counted 33 = .ok (.ldc2_w 134, 3) := by decide +kernel
theorem dX12_counted_36 : decode cX12_counted 36 = .ok (.invokestatic 111, 3) := by decide +kernel
theorem dX12_counted_39 : decode cX12_counted 39 = .ok (.ifCond .ne 6, 3) := by decide +kernel
theorem dX12_counted_42 : decode cX12_counted 42 = .ok (.ldc 121, 2) := by decide +kernel
theorem dX12_counted_44 : decode cX12_counted 44 = .ok (.ireturn, 1) := by decide +kernel
theorem dX12_counted_45 : decode cX12_counted 45 = .ok (.iconst 0, 1) := by decide +kernel
theorem dX12_counted_46 : decode cX12_counted 46 = .ok (.istore 4, 2) := by decide +kernel
theorem dX12_counted_48 : decode cX12_counted 48 = .ok (.iconst 0, 1) := by decide +kernel
theorem dX12_counted_49 : decode cX12_counted 49 = .ok (.istore 5, 2) := by decide +kernel
theorem dX12_counted_51 : decode cX12_counted 51 = .ok (.iload 5, 2) := by decide +kernel
theorem dX12_counted_53 : decode cX12_counted 53 = .ok (.aload_n 0, 1) := by decide +kernel
theorem dX12_counted_54 : decode cX12_counted 54 = .ok (.getfield 127, 3) := by decide +kernel
theorem dX12_counted_57 : decode cX12_counted 57 = .ok (.if_icmp .ge 52, 3) := by decide +kernel
theorem dX12_counted_60 : decode cX12_counted 60 = .ok (.iload 4, 2) := by decide +kernel
theorem dX12_counted_62 : decode cX12_counted 62 = .ok (.aload_n 0, 1) := by decide +kernel
theorem dX12_counted_63 : decode cX12_counted 63 = .ok (.getfield 25, 3) := by decide +kernel
theorem dX12_counted_66 : decode cX12_counted 66 = .ok (.iload 5, 2) := by decide +kernel
theorem dX12_counted_68 : decode cX12_counted 68 = .ok (.iaload, 1) := by decide +kernel
theorem dX12_counted_69 : decode cX12_counted 69 = .ok (.iload_n 3, 1) := by decide +kernel
theorem dX12_counted_70 : decode cX12_counted 70 = .ok (.if_icmp .ne 29, 3) := by decide +kernel
theorem dX12_counted_73 : decode cX12_counted 73 = .ok (.aload_n 0, 1) := by decide +kernel
theorem dX12_counted_74 : decode cX12_counted 74 = .ok (.getfield 22, 3) := by decide +kernel
theorem dX12_counted_77 : decode cX12_counted 77 = .ok (.iload 5, 2) := by decide +kernel
theorem dX12_counted_79 : decode cX12_counted 79 = .ok (.iaload, 1) := by decide +kernel
theorem dX12_counted_80 : decode cX12_counted 80 = .ok (.iload_n 1, 1) := by decide +kernel
theorem dX12_counted_81 : decode cX12_counted 81 = .ok (.if_icmp .lt 18, 3) := by decide +kernel
theorem dX12_counted_84 : decode cX12_counted 84 = .ok (.aload_n 0, 1) := by decide +kernel
theorem dX12_counted_85 : decode cX12_counted 85 = .ok (.getfield 22, 3) := by decide +kernel
theorem dX12_counted_88 : decode cX12_counted 88 = .ok (.iload 5, 2) := by decide +kernel
theorem dX12_counted_90 : decode cX12_counted 90 = .ok (.iaload, 1) := by decide +kernel
theorem dX12_counted_91 : decode cX12_counted 91 = .ok (.iload_n 2, 1) := by decide +kernel
theorem dX12_counted_92 : decode cX12_counted 92 = .ok (.if_icmp .ge 7, 3) := by decide +kernel
theorem dX12_counted_95 : decode cX12_counted 95 = .ok (.iconst 1, 1) := by decide +kernel
theorem dX12_counted_96 : decode cX12_counted 96 = .ok (.goto 4, 3) := by decide +kernel
theorem dX12_counted_99 : decode cX12_counted 99 = .ok (.iconst 0, 1) := by decide +kernel
theorem dX12_counted_100 : decode cX12_counted 100 = .ok (.iadd, 1) := by decide +kernel
theorem dX12_counted_101 : decode cX12_counted 101 = .ok (.istore 4, 2) := by decide +kernel
theorem dX12_counted_103 : decode cX12_counted 103 = .ok (.iinc 5 1, 3) := by decide +kernel
theorem dX12_counted_106 : decode cX12_counted 106 = .ok (.goto (-55), 3) := by decide +kernel
theorem dX12_counted_109 : decode cX12_counted 109 = .ok (.iload 4, 2) := by decide +kernel
theorem dX12_counted_111 : decode cX12_counted 111 = .ok (.ifCond .le 14, 3) := by decide +kernel
theorem dX12_counted_114 : decode cX12_counted 114 = .ok (.iload 4, 2) := by decide +kernel
theorem dX12_counted_116 : decode cX12_counted 116 = .ok (.iconst 5, 1) := by decide +kernel
theorem dX12_counted_117 : decode cX12_counted 117 = .ok (.if_icmp .ge 8, 3) := by decide +kernel
theorem dX12_counted_120 : decode cX12_counted 120 = .ok (.ldc 126, 2) := by decide +kernel
theorem dX12_counted_122 : decode cX12_counted 122 = .ok (.goto 5, 3) := by decide +kernel
theorem dX12_counted_125 : decode cX12_counted 125 = .ok (.iload 4, 2) := by decide +kernel
theorem dX12_counted_127 : decode cX12_counted 127 = .ok (.ireturn, 1) := by decide +kernel
theorem kd_X12_counted : aKd m_X12_counted 3 := ⟨wd_47_15, wd_1_5, ⟨by decide +kernel, by decide +kernel, by decide +kernel⟩⟩
set_option maxRecDepth 100000 in
set_option maxHeartbeats 4000000 in
theorem l_X12_counted_42   (σ : aSt) (o : Int32 × aSt) (h : f_X12_counted_42   σ = some o) : AW true m_X12_counted 42 [] [] σ 0 0 (some (.int o.1)) o.2 := by
  unfold f_X12_counted_42 at h
  refine w_ldc (v := (-1000001)) dX12_counted_42 wd_10_21 ?_
  obtain rfl := Option.some.inj h
  exact w_ireturn dX12_counted_44 rfl (Nat.le_of_ble_eq_true rfl) (Nat.le_of_ble_eq_true rfl)
set_option maxRecDepth 100000 in
set_option maxHeartbeats 4000000 in
theorem l_X12_counted_100 (rec51 : Int32 → Int32 → Int32 → Int32 → Int32 → aSt → Option (Int32 × aSt)) (hrec51 : ∀ (x1 : Int32) (x2 : Int32) (x3 : Int32) (x4 : Int32) (x5 : Int32) (σ : aSt) (o : Int32 × aSt), rec51 x1 x2 x3 x4 x5 σ = some o → AW true m_X12_counted 51 [(0, va_rf (some (57))), (1, Value.int (x1)), (2, Value.int (x2)), (3, Value.int (x3)), (4, Value.int (x4)), (5, Value.int (x5))] [] σ 0 0 (some (.int o.1)) o.2) (x1 : Int32) (x2 : Int32) (x3 : Int32) (x5 : Int32) (t0 : Int32) (t1 : Int32) (σ : aSt) (o : Int32 × aSt) (h : f_X12_counted_100 rec51 x1 x2 x3 x5 t0 t1 σ = some o) : AW true m_X12_counted 100 [(0, va_rf (some (57))), (1, Value.int (x1)), (2, Value.int (x2)), (3, Value.int (x3)), (5, Value.int (x5))] [.int (t1), .int (t0)] σ 0 0 (some (.int o.1)) o.2 := by
  unfold f_X12_counted_100 at h
  refine w_iadd dX12_counted_100 ?_
  refine w_istore dX12_counted_101 (by decide) rfl ?_
  refine w_iinc (q := 5) (v := x5 + 1) dX12_counted_103 rfl rfl (by decide) rfl ?_
  refine w_goto 51 dX12_counted_106 (by decide) ?_
  refine w_sub [2, 3, 4, 5, 1, 0] rfl ?_
  exact hrec51 _ _ _ _ _ _ _ h
set_option maxRecDepth 100000 in
set_option maxHeartbeats 4000000 in
theorem l_X12_counted_99 (rec51 : Int32 → Int32 → Int32 → Int32 → Int32 → aSt → Option (Int32 × aSt)) (hrec51 : ∀ (x1 : Int32) (x2 : Int32) (x3 : Int32) (x4 : Int32) (x5 : Int32) (σ : aSt) (o : Int32 × aSt), rec51 x1 x2 x3 x4 x5 σ = some o → AW true m_X12_counted 51 [(0, va_rf (some (57))), (1, Value.int (x1)), (2, Value.int (x2)), (3, Value.int (x3)), (4, Value.int (x4)), (5, Value.int (x5))] [] σ 0 0 (some (.int o.1)) o.2) (x1 : Int32) (x2 : Int32) (x3 : Int32) (x5 : Int32) (t0 : Int32) (σ : aSt) (o : Int32 × aSt) (h : f_X12_counted_99 rec51 x1 x2 x3 x5 t0 σ = some o) : AW true m_X12_counted 99 [(0, va_rf (some (57))), (1, Value.int (x1)), (2, Value.int (x2)), (3, Value.int (x3)), (5, Value.int (x5))] [.int (t0)] σ 0 0 (some (.int o.1)) o.2 := by
  unfold f_X12_counted_99 at h
  refine w_iconst (v := 0) dX12_counted_99 (by decide) ?_
  exact l_X12_counted_100 rec51 hrec51 _ _ _ _ _ _ _ _ h
set_option maxRecDepth 100000 in
set_option maxHeartbeats 4000000 in
theorem l_X12_counted_127  (t0 : Int32) (σ : aSt) (o : Int32 × aSt) (h : f_X12_counted_127  t0 σ = some o) : AW true m_X12_counted 127 [] [.int (t0)] σ 0 0 (some (.int o.1)) o.2 := by
  unfold f_X12_counted_127 at h
  obtain rfl := Option.some.inj h
  exact w_ireturn dX12_counted_127 rfl (Nat.le_of_ble_eq_true rfl) (Nat.le_of_ble_eq_true rfl)
set_option maxRecDepth 100000 in
set_option maxHeartbeats 4000000 in
theorem l_X12_counted_125  (x4 : Int32) (σ : aSt) (o : Int32 × aSt) (h : f_X12_counted_125  x4 σ = some o) : AW true m_X12_counted 125 [(4, Value.int (x4))] [] σ 0 0 (some (.int o.1)) o.2 := by
  unfold f_X12_counted_125 at h
  refine w_iload 0 dX12_counted_125 rfl ?_
  refine w_sub [] rfl ?_
  exact l_X12_counted_127 _ _ _ h
set_option maxRecDepth 100000 in
set_option maxHeartbeats 4000000 in
theorem l_X12_counted_51_b (rec51 : Int32 → Int32 → Int32 → Int32 → Int32 → aSt → Option (Int32 × aSt)) (hrec51 : ∀ (x1 : Int32) (x2 : Int32) (x3 : Int32) (x4 : Int32) (x5 : Int32) (σ : aSt) (o : Int32 × aSt), rec51 x1 x2 x3 x4 x5 σ = some o → AW true m_X12_counted 51 [(0, va_rf (some (57))), (1, Value.int (x1)), (2, Value.int (x2)), (3, Value.int (x3)), (4, Value.int (x4)), (5, Value.int (x5))] [] σ 0 0 (some (.int o.1)) o.2) (x1 : Int32) (x2 : Int32) (x3 : Int32) (x4 : Int32) (x5 : Int32) (σ : aSt) (o : Int32 × aSt) (h : f_X12_counted_51_b rec51 x1 x2 x3 x4 x5 σ = some o) : AW true m_X12_counted 51 [(0, va_rf (some (57))), (1, Value.int (x1)), (2, Value.int (x2)), (3, Value.int (x3)), (4, Value.int (x4)), (5, Value.int (x5))] [] σ 0 0 (some (.int o.1)) o.2 := by
  unfold f_X12_counted_51_b at h
  refine w_iload 5 dX12_counted_51 rfl ?_
  refine w_aload_n 0 ((some (57))) dX12_counted_53 rfl rfl ?_
  refine w_get dX12_counted_54 fl_RX12_127 ⟨rfl, Or.inr ⟨rfl, by decide⟩⟩ (aFv_i rfl) ?_
  refine w_icmp_ge 109 dX12_counted_57 (by decide) (fun c10 => ?_) (fun c10 => ?_)
  · replace h := e_t c10 h
    refine w_iload 4 dX12_counted_109 rfl ?_
    refine w_if_le 125 dX12_counted_111 (by decide) (fun c11 => ?_) (fun c11 => ?_)
    · replace h := e_t c11 h
      refine w_sub [4] rfl ?_
      exact l_X12_counted_125 _ _ _ h
    · replace h := e_f c11 h
      refine w_iload 4 dX12_counted_114 rfl ?_
      refine w_iconst (v := 5) dX12_counted_116 (by decide) ?_
      refine w_icmp_ge 125 dX12_counted_117 (by decide) (fun c12 => ?_) (fun c12 => ?_)
      · replace h := e_t c12 h
        refine w_sub [4] rfl ?_
        exact l_X12_counted_125 _ _ _ h
      · replace h := e_f c12 h
        refine w_ldc (v := (-1000000)) dX12_counted_120 wd_15_11 ?_
        refine w_goto 127 dX12_counted_122 (by decide) ?_
        refine w_sub [] rfl ?_
        exact l_X12_counted_127 _ _ _ h
  · replace h := e_f c10 h
    refine w_iload 4 dX12_counted_60 rfl ?_
    refine w_aload_n 0 ((some (57))) dX12_counted_62 rfl rfl ?_
    refine w_get (v := va_rf (some 63)) dX12_counted_63 fl_RX12_25 ⟨rfl, Or.inr ⟨rfl, by decide⟩⟩ (aFv_k rfl) ?_
    refine w_iload 5 dX12_counted_66 rfl ?_
    replace h := e_grd h; obtain ⟨b13, h⟩ := h
    refine w_iaload dX12_counted_68 ⟨rfl, Or.inr ⟨rfl, by decide⟩⟩ b13 ?_
    refine w_iload_n 3 dX12_counted_69 rfl rfl ?_
    refine w_icmp_ne 99 dX12_counted_70 (by decide) (fun c14 => ?_) (fun c14 => ?_)
    · replace h := e_f c14 h
      refine w_sub [0, 1, 2, 3, 5] rfl ?_
      exact l_X12_counted_99 rec51 hrec51 _ _ _ _ _ _ _ h
    · replace h := e_t c14 h
      refine w_aload_n 0 ((some (57))) dX12_counted_73 rfl rfl ?_
      refine w_get (v := va_rf (some 62)) dX12_counted_74 fl_RX12_22 ⟨rfl, Or.inr ⟨rfl, by decide⟩⟩ (aFv_k rfl) ?_
      refine w_iload 5 dX12_counted_77 rfl ?_
      replace h := e_grd h; obtain ⟨b15, h⟩ := h
      refine w_iaload dX12_counted_79 ⟨rfl, Or.inr ⟨rfl, by decide⟩⟩ b15 ?_
      refine w_iload_n 1 dX12_counted_80 rfl rfl ?_
      refine w_icmp_lt 99 dX12_counted_81 (by decide) (fun c16 => ?_) (fun c16 => ?_)
      · replace h := e_t c16 h
        refine w_sub [0, 1, 2, 3, 5] rfl ?_
        exact l_X12_counted_99 rec51 hrec51 _ _ _ _ _ _ _ h
      · replace h := e_f c16 h
        refine w_aload_n 0 ((some (57))) dX12_counted_84 rfl rfl ?_
        refine w_get (v := va_rf (some 62)) dX12_counted_85 fl_RX12_22 ⟨rfl, Or.inr ⟨rfl, by decide⟩⟩ (aFv_k rfl) ?_
        refine w_iload 5 dX12_counted_88 rfl ?_
        replace h := e_grd h; obtain ⟨b17, h⟩ := h
        refine w_iaload dX12_counted_90 ⟨rfl, Or.inr ⟨rfl, by decide⟩⟩ b17 ?_
        refine w_iload_n 2 dX12_counted_91 rfl rfl ?_
        refine w_icmp_ge 99 dX12_counted_92 (by decide) (fun c18 => ?_) (fun c18 => ?_)
        · replace h := e_t c18 h
          refine w_sub [0, 1, 2, 3, 5] rfl ?_
          exact l_X12_counted_99 rec51 hrec51 _ _ _ _ _ _ _ h
        · replace h := e_f c18 h
          refine w_iconst (v := 1) dX12_counted_95 (by decide) ?_
          refine w_goto 100 dX12_counted_96 (by decide) ?_
          refine w_sub [0, 1, 2, 3, 5] rfl ?_
          exact l_X12_counted_100 rec51 hrec51 _ _ _ _ _ _ _ _ h
theorem l_X12_counted_51  : ∀ (n : Nat) (x1 : Int32) (x2 : Int32) (x3 : Int32) (x4 : Int32) (x5 : Int32) (σ : aSt) (o : Int32 × aSt), f_X12_counted_51  n x1 x2 x3 x4 x5 σ = some o → AW true m_X12_counted 51 [(0, va_rf (some (57))), (1, Value.int (x1)), (2, Value.int (x2)), (3, Value.int (x3)), (4, Value.int (x4)), (5, Value.int (x5))] [] σ 0 0 (some (.int o.1)) o.2
  | 0 => fun x1 x2 x3 x4 x5 σ o h => by cases h
  | n + 1 => fun x1 x2 x3 x4 x5 σ o h => l_X12_counted_51_b (f_X12_counted_51  n) (l_X12_counted_51  n) x1 x2 x3 x4 x5 σ o h
set_option maxRecDepth 100000 in
set_option maxHeartbeats 4000000 in
theorem c_X12_counted (p1 : Int32) (p2 : Int32) (p3 : Int32) (σ : aSt) (o : Int32 × aSt) (h : f_X12_counted p1 p2 p3 σ = some o) : AM true m_X12_counted [va_rf (some (57)), .int (p1), .int (p2), .int (p3)] σ (some (.int o.1)) o.2 := by
  refine AM_of2 (lv := [(0, va_rf (some (57))), (1, Value.int (p1)), (2, Value.int (p2)), (3, Value.int (p3))]) (by decide +kernel) rfl (Nat.le_of_ble_eq_true rfl) ?_
  unfold f_X12_counted at h
  refine w_aload_n 0 ((some (57))) dX12_counted_0 rfl rfl ?_
  refine w_iconst (v := 0) dX12_counted_1 (by decide) ?_
  refine w_putI dX12_counted_2 fl_RX12_102 (Or.inl rfl) rfl ⟨rfl, Or.inr ⟨rfl, by decide⟩⟩ ?_
  refine w_iload_n 1 dX12_counted_5 rfl rfl ?_
  refine w_i2l dX12_counted_6 ?_
  refine w_lconst (v := 0) dX12_counted_7 (by decide) ?_
  refine w_ldc2 (v := 200000) dX12_counted_8 wd_46_19 ?_
  replace h := e_bind h; obtain ⟨q1, e2, h⟩ := h
  refine w_callS1 (M2 := m_X12_in) (av := [.long (p1.toInt64), .long (0), .long (200000)]) (c_X12_in _ _ _ _ _ e2) dX12_counted_11 kd_X12_in wd_11_3 wd_11_4 rfl rfl ⟨Nat.le_of_ble_eq_true rfl, Nat.le_of_ble_eq_true rfl, Nat.le_of_ble_eq_true rfl, Nat.le_of_ble_eq_true rfl⟩ (Nat.le_of_ble_eq_true rfl) ?_
  refine w_if_eq 42 dX12_counted_14 (by decide) (fun c3 => ?_) (fun c3 => ?_)
  · replace h := e_t c3 h
    refine w_sub [] rfl ?_
    exact l_X12_counted_42 _ _ h
  · replace h := e_f c3 h
    refine w_iload_n 2 dX12_counted_17 rfl rfl ?_
    refine w_i2l dX12_counted_18 ?_
    refine w_iload_n 1 dX12_counted_19 rfl rfl ?_
    refine w_i2l dX12_counted_20 ?_
    refine w_ldc2 (v := 200000) dX12_counted_21 wd_46_19 ?_
    replace h := e_bind h; obtain ⟨q4, e5, h⟩ := h
    refine w_callS1 (M2 := m_X12_in) (av := [.long (p2.toInt64), .long (p1.toInt64), .long (200000)]) (c_X12_in _ _ _ _ _ e5) dX12_counted_24 kd_X12_in wd_11_3 wd_11_4 rfl rfl ⟨Nat.le_of_ble_eq_true rfl, Nat.le_of_ble_eq_true rfl, Nat.le_of_ble_eq_true rfl, Nat.le_of_ble_eq_true rfl⟩ (Nat.le_of_ble_eq_true rfl) ?_
    refine w_if_eq 42 dX12_counted_27 (by decide) (fun c6 => ?_) (fun c6 => ?_)
    · replace h := e_t c6 h
      refine w_sub [] rfl ?_
      exact l_X12_counted_42 _ _ h
    · replace h := e_f c6 h
      refine w_iload_n 3 dX12_counted_30 rfl rfl ?_
      refine w_i2l dX12_counted_31 ?_
      refine w_lconst (v := 0) dX12_counted_32 (by decide) ?_
      refine w_ldc2 (v := 19) dX12_counted_33 wd_15_9 ?_
      replace h := e_bind h; obtain ⟨q7, e8, h⟩ := h
      refine w_callS1 (M2 := m_X12_in) (av := [.long (p3.toInt64), .long (0), .long (19)]) (c_X12_in _ _ _ _ _ e8) dX12_counted_36 kd_X12_in wd_11_3 wd_11_4 rfl rfl ⟨Nat.le_of_ble_eq_true rfl, Nat.le_of_ble_eq_true rfl, Nat.le_of_ble_eq_true rfl, Nat.le_of_ble_eq_true rfl⟩ (Nat.le_of_ble_eq_true rfl) ?_
      refine w_if_ne 45 dX12_counted_39 (by decide) (fun c9 => ?_) (fun c9 => ?_)
      · replace h := e_f c9 h
        refine w_iconst (v := 0) dX12_counted_45 (by decide) ?_
        refine w_istore dX12_counted_46 (by decide) rfl ?_
        refine w_iconst (v := 0) dX12_counted_48 (by decide) ?_
        refine w_istore dX12_counted_49 (by decide) rfl ?_
        refine w_sub [2, 3, 4, 5, 1, 0] rfl ?_
        exact l_X12_counted_51 aN _ _ _ _ _ _ _ h
      · replace h := e_t c9 h
        refine w_sub [] rfl ?_
        exact l_X12_counted_42 _ _ h
theorem dX12_kindOf_0 : decode cX12_kindOf 0 = .ok (.aload_n 0, 1) := by decide +kernel
theorem dX12_kindOf_1 : decode cX12_kindOf 1 = .ok (.aload_n 0, 1) := by decide +kernel
theorem dX12_kindOf_2 : decode cX12_kindOf 2 = .ok (.iload_n 1, 1) := by decide +kernel
theorem dX12_kindOf_3 : decode cX12_kindOf 3 = .ok (.iconst 0, 1) := by decide +kernel
theorem dX12_kindOf_4 : decode cX12_kindOf 4 = .ok (.invokevirtual 311, 3) := by decide +kernel
theorem dX12_kindOf_7 : decode cX12_kindOf 7 = .ok (.invokevirtual 305, 3) := by decide +kernel
theorem dX12_kindOf_10 : decode cX12_kindOf 10 = .ok (.istore_n 2, 1) := by decide +kernel
theorem dX12_kindOf_11 : decode cX12_kindOf 11 = .ok (.aload_n 0, 1) := by decide +kernel
theorem dX12_kindOf_12 : decode cX12_kindOf 12 = .ok (.getfield 37, 3) := by decide +kernel
theorem dX12_kindOf_15 : decode cX12_kindOf 15 = .ok (.iload_n 1, 1) := by decide +kernel
theorem dX12_kindOf_16 : decode cX12_kindOf 16 = .ok (.iaload, 1) := by decide +kernel
theorem dX12_kindOf_17 : decode cX12_kindOf 17 = .ok (.ifCond .ne 7, 3) := by decide +kernel
theorem dX12_kindOf_20 : decode cX12_kindOf 20 = .ok (.iconst 3, 1) := by decide +kernel
theorem dX12_kindOf_21 : decode cX12_kindOf 21 = .ok (.goto 22, 3) := by decide +kernel
theorem dX12_kindOf_24 : decode cX12_kindOf 24 = .ok (.iload_n 2, 1) := by decide +kernel
theorem dX12_kindOf_25 : decode cX12_kindOf 25 = .ok (.iconst 2, 1) := by decide +kernel
theorem dX12_kindOf_26 : decode cX12_kindOf 26 = .ok (.if_icmp .ne 7, 3) := by decide +kernel
theorem dX12_kindOf_29 : decode cX12_kindOf 29 = .ok (.iconst 2, 1) := by decide +kernel
theorem dX12_kindOf_30 : decode cX12_kindOf 30 = .ok (.goto 13, 3) := by decide +kernel
theorem dX12_kindOf_33 : decode cX12_kindOf 33 = .ok (.iload_n 2, 1) := by decide +kernel
theorem dX12_kindOf_34 : decode cX12_kindOf 34 = .ok (.iconst 1, 1) := by decide +kernel
theorem dX12_kindOf_35 : decode cX12_kindOf 35 = .ok (.if_icmp .ne 7, 3) := by decide +kernel
theorem dX12_kindOf_38 : decode cX12_kindOf 38 = .ok (.iconst 1, 1) := by decide +kernel
theorem dX12_kindOf_39 : decode cX12_kindOf 39 = .ok (.goto 4, 3) := by decide +kernel
theorem dX12_kindOf_42 : decode cX12_kindOf 42 = .ok (.iconst 0, 1) := by decide +kernel
theorem dX12_kindOf_43 : decode cX12_kindOf 43 = .ok (.ireturn, 1) := by decide +kernel
theorem kd_X12_kindOf : aKd m_X12_kindOf 1 := ⟨wd_48_7, wd_1_5, ⟨by decide +kernel, by decide +kernel, by decide +kernel⟩⟩
set_option maxRecDepth 100000 in
set_option maxHeartbeats 4000000 in
theorem l_X12_kindOf_43  (t0 : Int32) (σ : aSt) (o : Int32 × aSt) (h : f_X12_kindOf_43  t0 σ = some o) : AW true m_X12_kindOf 43 [] [.int (t0)] σ 0 0 (some (.int o.1)) o.2 := by
  unfold f_X12_kindOf_43 at h
  obtain rfl := Option.some.inj h
  exact w_ireturn dX12_kindOf_43 rfl (Nat.le_of_ble_eq_true rfl) (Nat.le_of_ble_eq_true rfl)
set_option maxRecDepth 100000 in
set_option maxHeartbeats 4000000 in
theorem c_X12_kindOf (p1 : Int32) (σ : aSt) (o : Int32 × aSt) (h : f_X12_kindOf p1 σ = some o) : AM true m_X12_kindOf [va_rf (some (57)), .int (p1)] σ (some (.int o.1)) o.2 := by
  refine AM_of2 (lv := [(0, va_rf (some (57))), (1, Value.int (p1))]) (by decide +kernel) rfl (Nat.le_of_ble_eq_true rfl) ?_
  unfold f_X12_kindOf at h
  refine w_aload_n 0 ((some (57))) dX12_kindOf_0 rfl rfl ?_
  refine w_aload_n 0 ((some (57))) dX12_kindOf_1 rfl rfl ?_
  refine w_iload_n 1 dX12_kindOf_2 rfl rfl ?_
  refine w_iconst (v := 0) dX12_kindOf_3 (by decide) ?_
  replace h := e_bind h; obtain ⟨q1, e2, h⟩ := h
  refine w_callV1 (M2 := m_X12_scoreOf) (av := [.int (p1), .int (0)]) (ci := 12) (c_X12_scoreOf _ _ _ _ e2) dX12_kindOf_4 kd_X12_scoreOf wd_38_8 wd_38_9 wd_38_10 rfl rfl ⟨rfl, Or.inr ⟨rfl, by decide⟩⟩ rfl ⟨Nat.le_of_ble_eq_true rfl, Nat.le_of_ble_eq_true rfl, Nat.le_of_ble_eq_true rfl, Nat.le_of_ble_eq_true rfl⟩ (Nat.le_of_ble_eq_true rfl) ?_
  replace h := e_bind h; obtain ⟨q3, e4, h⟩ := h
  refine w_callV1 (M2 := m_X12_actBy) (av := [.int (q1.1)]) (ci := 12) (c_X12_actBy _ _ _ e4) dX12_kindOf_7 kd_X12_actBy wd_36_16 wd_36_17 wd_36_18 rfl rfl ⟨rfl, Or.inr ⟨rfl, by decide⟩⟩ rfl ⟨Nat.le_of_ble_eq_true rfl, Nat.le_of_ble_eq_true rfl, Nat.le_of_ble_eq_true rfl, Nat.le_of_ble_eq_true rfl⟩ (Nat.le_of_ble_eq_true rfl) ?_
  refine w_istore_n dX12_kindOf_10 rfl (by decide) rfl ?_
  refine w_aload_n 1 ((some (57))) dX12_kindOf_11 rfl rfl ?_
  refine w_get (v := va_rf (some 67)) dX12_kindOf_12 fl_RX12_37 ⟨rfl, Or.inr ⟨rfl, by decide⟩⟩ (aFv_k rfl) ?_
  refine w_iload_n 2 dX12_kindOf_15 rfl rfl ?_
  replace h := e_grd h; obtain ⟨b5, h⟩ := h
  refine w_iaload dX12_kindOf_16 ⟨rfl, Or.inr ⟨rfl, by decide⟩⟩ b5 ?_
  refine w_if_ne 24 dX12_kindOf_17 (by decide) (fun c6 => ?_) (fun c6 => ?_)
  · replace h := e_f c6 h
    refine w_iload_n 0 dX12_kindOf_24 rfl rfl ?_
    refine w_iconst (v := 2) dX12_kindOf_25 (by decide) ?_
    refine w_icmp_ne 33 dX12_kindOf_26 (by decide) (fun c7 => ?_) (fun c7 => ?_)
    · replace h := e_f c7 h
      refine w_iload_n 0 dX12_kindOf_33 rfl rfl ?_
      refine w_iconst (v := 1) dX12_kindOf_34 (by decide) ?_
      refine w_icmp_ne 42 dX12_kindOf_35 (by decide) (fun c8 => ?_) (fun c8 => ?_)
      · replace h := e_f c8 h
        refine w_iconst (v := 0) dX12_kindOf_42 (by decide) ?_
        refine w_sub [] rfl ?_
        exact l_X12_kindOf_43 _ _ _ h
      · replace h := e_t c8 h
        refine w_iconst (v := 1) dX12_kindOf_38 (by decide) ?_
        refine w_goto 43 dX12_kindOf_39 (by decide) ?_
        refine w_sub [] rfl ?_
        exact l_X12_kindOf_43 _ _ _ h
    · replace h := e_t c7 h
      refine w_iconst (v := 2) dX12_kindOf_29 (by decide) ?_
      refine w_goto 43 dX12_kindOf_30 (by decide) ?_
      refine w_sub [] rfl ?_
      exact l_X12_kindOf_43 _ _ _ h
  · replace h := e_t c6 h
    refine w_iconst (v := 3) dX12_kindOf_20 (by decide) ?_
    refine w_goto 43 dX12_kindOf_21 (by decide) ?_
    refine w_sub [] rfl ?_
    exact l_X12_kindOf_43 _ _ _ h
theorem dX12_kind_0 : decode cX12_kind 0 = .ok (.aload_n 0, 1) := by decide +kernel
theorem dX12_kind_1 : decode cX12_kind 1 = .ok (.iconst 0, 1) := by decide +kernel
theorem dX12_kind_2 : decode cX12_kind 2 = .ok (.putfield 102, 3) := by decide +kernel
theorem dX12_kind_5 : decode cX12_kind 5 = .ok (.aload_n 0, 1) := by decide +kernel
theorem dX12_kind_6 : decode cX12_kind 6 = .ok (.iload_n 1, 1) := by decide +kernel
theorem dX12_kind_7 : decode cX12_kind 7 = .ok (.invokevirtual 138, 3) := by decide +kernel
theorem dX12_kind_10 : decode cX12_kind 10 = .ok (.istore_n 2, 1) := by decide +kernel
theorem dX12_kind_11 : decode cX12_kind 11 = .ok (.iload_n 2, 1) := by decide +kernel
theorem dX12_kind_12 : decode cX12_kind 12 = .ok (.ldc 126, 2) := by decide +kernel
theorem dX12_kind_14 : decode cX12_kind 14 = .ok (.if_icmp .ne 8, 3) := by decide +kernel
theorem dX12_kind_17 : decode cX12_kind 17 = .ok (.ldc 121, 2) := by decide +kernel
theorem dX12_kind_19 : decode cX12_kind 19 = .ok (.goto 8, 3) := by decide +kernel
theorem dX12_kind_22 : decode cX12_kind 22 = .ok (.aload_n 0, 1) := by decide +kernel
theorem dX12_kind_23 : decode cX12_kind 23 = .ok (.iload_n 2, 1) := by decide +kernel
theorem dX12_kind_24 : decode cX12_kind 24 = .ok (.invokevirtual 346, 3) := by decide +kernel
theorem dX12_kind_27 : decode cX12_kind 27 = .ok (.ireturn, 1) := by decide +kernel
theorem kd_X12_kind : aKd m_X12_kind 1 := ⟨wd_48_3, wd_1_5, ⟨by decide +kernel, by decide +kernel, by decide +kernel⟩⟩
set_option maxRecDepth 100000 in
set_option maxHeartbeats 4000000 in
theorem l_X12_kind_27  (t0 : Int32) (σ : aSt) (o : Int32 × aSt) (h : f_X12_kind_27  t0 σ = some o) : AW true m_X12_kind 27 [] [.int (t0)] σ 0 0 (some (.int o.1)) o.2 := by
  unfold f_X12_kind_27 at h
  obtain rfl := Option.some.inj h
  exact w_ireturn dX12_kind_27 rfl (Nat.le_of_ble_eq_true rfl) (Nat.le_of_ble_eq_true rfl)
set_option maxRecDepth 100000 in
set_option maxHeartbeats 4000000 in
theorem c_X12_kind (p1 : Int32) (σ : aSt) (o : Int32 × aSt) (h : f_X12_kind p1 σ = some o) : AM true m_X12_kind [va_rf (some (57)), .int (p1)] σ (some (.int o.1)) o.2 := by
  refine AM_of2 (lv := [(0, va_rf (some (57))), (1, Value.int (p1))]) (by decide +kernel) rfl (Nat.le_of_ble_eq_true rfl) ?_
  unfold f_X12_kind at h
  refine w_aload_n 0 ((some (57))) dX12_kind_0 rfl rfl ?_
  refine w_iconst (v := 0) dX12_kind_1 (by decide) ?_
  refine w_putI dX12_kind_2 fl_RX12_102 (Or.inl rfl) rfl ⟨rfl, Or.inr ⟨rfl, by decide⟩⟩ ?_
  refine w_aload_n 0 ((some (57))) dX12_kind_5 rfl rfl ?_
  refine w_iload_n 1 dX12_kind_6 rfl rfl ?_
  replace h := e_bind h; obtain ⟨q1, e2, h⟩ := h
  refine w_callV1 (M2 := m_X12_numberOf) (av := [.int (p1)]) (ci := 12) (c_X12_numberOf _ _ _ e2) dX12_kind_7 kd_X12_numberOf wd_15_15 wd_15_16 wd_15_17 rfl rfl ⟨rfl, Or.inr ⟨rfl, by decide⟩⟩ rfl ⟨Nat.le_of_ble_eq_true rfl, Nat.le_of_ble_eq_true rfl, Nat.le_of_ble_eq_true rfl, Nat.le_of_ble_eq_true rfl⟩ (Nat.le_of_ble_eq_true rfl) ?_
  refine w_istore_n dX12_kind_10 rfl (by decide) rfl ?_
  refine w_iload_n 0 dX12_kind_11 rfl rfl ?_
  refine w_ldc (v := (-1000000)) dX12_kind_12 wd_15_11 ?_
  refine w_icmp_ne 22 dX12_kind_14 (by decide) (fun c3 => ?_) (fun c3 => ?_)
  · replace h := e_f c3 h
    refine w_aload_n 1 ((some (57))) dX12_kind_22 rfl rfl ?_
    refine w_iload_n 0 dX12_kind_23 rfl rfl ?_
    replace h := e_bind h; obtain ⟨q4, e5, h⟩ := h
    refine w_callV1 (M2 := m_X12_kindOf) (av := [.int (q1.1)]) (ci := 12) (c_X12_kindOf _ _ _ e5) dX12_kind_24 kd_X12_kindOf wd_48_4 wd_48_5 wd_48_6 rfl rfl ⟨rfl, Or.inr ⟨rfl, by decide⟩⟩ rfl ⟨Nat.le_of_ble_eq_true rfl, Nat.le_of_ble_eq_true rfl, Nat.le_of_ble_eq_true rfl, Nat.le_of_ble_eq_true rfl⟩ (Nat.le_of_ble_eq_true rfl) ?_
    refine w_sub [] rfl ?_
    exact l_X12_kind_27 _ _ _ h
  · replace h := e_t c3 h
    refine w_ldc (v := (-1000001)) dX12_kind_17 wd_10_21 ?_
    refine w_goto 27 dX12_kind_19 (by decide) ?_
    refine w_sub [] rfl ?_
    exact l_X12_kind_27 _ _ _ h
theorem dX12_isOf_0 : decode cX12_isOf 0 = .ok (.iload_n 1, 1) := by decide +kernel
theorem dX12_isOf_1 : decode cX12_isOf 1 = .ok (.ifCond .eq 18, 3) := by decide +kernel
theorem dX12_isOf_4 : decode cX12_isOf 4 = .ok (.iload_n 0, 1) := by decide +kernel
theorem dX12_isOf_5 : decode cX12_isOf 5 = .ok (.iload_n 1, 1) := by decide +kernel
theorem dX12_isOf_6 : decode cX12_isOf 6 = .ok (.if_icmp .eq 13, 3) := by decide +kernel
theorem dX12_isOf_9 : decode cX12_isOf 9 = .ok (.iload_n 1, 1) := by decide +kernel
theorem dX12_isOf_10 : decode cX12_isOf 10 = .ok (.iconst 1, 1) := by decide +kernel
theorem dX12_isOf_11 : decode cX12_isOf 11 = .ok (.if_icmp .ne 12, 3) := by decide +kernel
theorem dX12_isOf_14 : decode cX12_isOf 14 = .ok (.iload_n 0, 1) := by decide +kernel
theorem dX12_isOf_15 : decode cX12_isOf 15 = .ok (.iconst 2, 1) := by decide +kernel
theorem dX12_isOf_16 : decode cX12_isOf 16 = .ok (.if_icmp .ne 7, 3) := by decide +kernel
theorem dX12_isOf_19 : decode cX12_isOf 19 = .ok (.iconst 1, 1) := by decide +kernel
theorem dX12_isOf_20 : decode cX12_isOf 20 = .ok (.goto 4, 3) := by decide +kernel
theorem dX12_isOf_23 : decode cX12_isOf 23 = .ok (.iconst 0, 1) := by decide +kernel
theorem dX12_isOf_24 : decode cX12_isOf 24 = .ok (.ireturn, 1) := by decide +kernel
theorem kd_X12_isOf : aKd m_X12_isOf 2 := ⟨wd_48_18, wd_1_5, ⟨by decide +kernel, by decide +kernel, by decide +kernel⟩⟩
set_option maxRecDepth 100000 in
set_option maxHeartbeats 4000000 in
theorem l_X12_isOf_24  (t0 : Int32) (σ : aSt) (o : Int32 × aSt) (h : f_X12_isOf_24  t0 σ = some o) : AW true m_X12_isOf 24 [] [.int (t0)] σ 0 0 (some (.int o.1)) o.2 := by
  unfold f_X12_isOf_24 at h
  replace h := e_grd h; obtain ⟨g5, h⟩ := h
  obtain rfl := Option.some.inj h
  exact w_zreturn dX12_isOf_24 rfl (e_nz g5) (Nat.le_of_ble_eq_true rfl) (Nat.le_of_ble_eq_true rfl)
set_option maxRecDepth 100000 in
set_option maxHeartbeats 4000000 in
theorem l_X12_isOf_19   (σ : aSt) (o : Int32 × aSt) (h : f_X12_isOf_19   σ = some o) : AW true m_X12_isOf 19 [] [] σ 0 0 (some (.int o.1)) o.2 := by
  unfold f_X12_isOf_19 at h
  refine w_iconst (v := 1) dX12_isOf_19 (by decide) ?_
  refine w_goto 24 dX12_isOf_20 (by decide) ?_
  exact l_X12_isOf_24 _ _ _ h
set_option maxRecDepth 100000 in
set_option maxHeartbeats 4000000 in
theorem l_X12_isOf_23   (σ : aSt) (o : Int32 × aSt) (h : f_X12_isOf_23   σ = some o) : AW true m_X12_isOf 23 [] [] σ 0 0 (some (.int o.1)) o.2 := by
  unfold f_X12_isOf_23 at h
  refine w_iconst (v := 0) dX12_isOf_23 (by decide) ?_
  exact l_X12_isOf_24 _ _ _ h
set_option maxRecDepth 100000 in
set_option maxHeartbeats 4000000 in
theorem c_X12_isOf (p0 : Int32) (p1 : Int32) (σ : aSt) (o : Int32 × aSt) (h : f_X12_isOf p0 p1 σ = some o) : AM true m_X12_isOf [.int (p0), .int (p1)] σ (some (.int o.1)) o.2 := by
  refine AM_of2 (lv := [(0, Value.int (p0)), (1, Value.int (p1))]) (by decide +kernel) rfl (Nat.le_of_ble_eq_true rfl) ?_
  unfold f_X12_isOf at h
  refine w_iload_n 1 dX12_isOf_0 rfl rfl ?_
  refine w_if_eq 19 dX12_isOf_1 (by decide) (fun c1 => ?_) (fun c1 => ?_)
  · replace h := e_t c1 h
    refine w_sub [] rfl ?_
    exact l_X12_isOf_19 _ _ h
  · replace h := e_f c1 h
    refine w_iload_n 0 dX12_isOf_4 rfl rfl ?_
    refine w_iload_n 1 dX12_isOf_5 rfl rfl ?_
    refine w_icmp_eq 19 dX12_isOf_6 (by decide) (fun c2 => ?_) (fun c2 => ?_)
    · replace h := e_t c2 h
      refine w_sub [] rfl ?_
      exact l_X12_isOf_19 _ _ h
    · replace h := e_f c2 h
      refine w_iload_n 1 dX12_isOf_9 rfl rfl ?_
      refine w_iconst (v := 1) dX12_isOf_10 (by decide) ?_
      refine w_icmp_ne 23 dX12_isOf_11 (by decide) (fun c3 => ?_) (fun c3 => ?_)
      · replace h := e_f c3 h
        refine w_sub [] rfl ?_
        exact l_X12_isOf_23 _ _ h
      · replace h := e_t c3 h
        refine w_iload_n 0 dX12_isOf_14 rfl rfl ?_
        refine w_iconst (v := 2) dX12_isOf_15 (by decide) ?_
        refine w_icmp_ne 23 dX12_isOf_16 (by decide) (fun c4 => ?_) (fun c4 => ?_)
        · replace h := e_f c4 h
          refine w_sub [] rfl ?_
          exact l_X12_isOf_23 _ _ h
        · replace h := e_t c4 h
          refine w_sub [] rfl ?_
          exact l_X12_isOf_19 _ _ h
theorem dX12_as_0 : decode cX12_as 0 = .ok (.aload_n 0, 1) := by decide +kernel
theorem dX12_as_1 : decode cX12_as 1 = .ok (.iconst 0, 1) := by decide +kernel
theorem dX12_as_2 : decode cX12_as 2 = .ok (.putfield 102, 3) := by decide +kernel
theorem dX12_as_5 : decode cX12_as 5 = .ok (.aload_n 0, 1) := by decide +kernel
theorem dX12_as_6 : decode cX12_as 6 = .ok (.iload_n 1, 1) := by decide +kernel
theorem dX12_as_7 : decode cX12_as 7 = .ok (.invokevirtual 138, 3) := by decide +kernel
theorem dX12_as_10 : decode cX12_as 10 = .ok (.istore_n 3, 1) := by decide +kernel
theorem dX12_as_11 : decode cX12_as 11 = .ok (.iload_n 3, 1) := by decide +kernel
theorem dX12_as_12 : decode cX12_as 12 = .ok (.ldc 126, 2) := by decide +kernel
theorem dX12_as_14 : decode cX12_as 14 = .ok (.if_icmp .eq 15, 3) := by decide +kernel
theorem dX12_as_17 : decode cX12_as 17 = .ok (.iload_n 2, 1) := by decide +kernel
theorem dX12_as_18 : decode cX12_as 18 = .ok (.i2l, 1) := by decide +kernel
theorem dX12_as_19 : decode cX12_as 19 = .ok (.lconst 0, 1) := by decide +kernel
theorem dX12_as_20 : decode cX12_as 20 = .ok (.ldc2_w 136, 3) := by decide +kernel
theorem dX12_as_23 : decode cX12_as 23 = .ok (.invokestatic 111, 3) := by decide +kernel
theorem dX12_as_26 : decode cX12_as 26 = .ok (.ifCond .ne 6, 3) := by decide +kernel
theorem dX12_as_29 : decode cX12_as 29 = .ok (.ldc 121, 2) := by decide +kernel
theorem dX12_as_31 : decode cX12_as 31 = .ok (.ireturn, 1) := by decide +kernel
theorem dX12_as_32 : decode cX12_as 32 = .ok (.aload_n 0, 1) := by decide +kernel
theorem dX12_as_33 : decode cX12_as 33 = .ok (.iconst 0, 1) := by decide +kernel
theorem dX12_as_34 : decode cX12_as 34 = .ok (.putfield 105, 3) := by decide +kernel
theorem dX12_as_37 : decode cX12_as 37 = .ok (.aload_n 0, 1) := by decide +kernel
theorem dX12_as_38 : decode cX12_as 38 = .ok (.iload_n 3, 1) := by decide +kernel
theorem dX12_as_39 : decode cX12_as 39 = .ok (.invokevirtual 346, 3) := by decide +kernel
theorem dX12_as_42 : decode cX12_as 42 = .ok (.iload_n 2, 1) := by decide +kernel
theorem dX12_as_43 : decode cX12_as 43 = .ok (.invokestatic 349, 3) := by decide +kernel
theorem dX12_as_46 : decode cX12_as 46 = .ok (.ifCond .eq 7, 3) := by decide +kernel
theorem dX12_as_49 : decode cX12_as 49 = .ok (.iload_n 3, 1) := by decide +kernel
theorem dX12_as_50 : decode cX12_as 50 = .ok (.goto 8, 3) := by decide +kernel
theorem dX12_as_53 : decode cX12_as 53 = .ok (.aload_n 0, 1) := by decide +kernel
theorem dX12_as_54 : decode cX12_as 54 = .ok (.iconst 3, 1) := by decide +kernel
theorem dX12_as_55 : decode cX12_as 55 = .ok (.invokevirtual 122, 3) := by decide +kernel
theorem dX12_as_58 : decode cX12_as 58 = .ok (.ireturn, 1) := by decide +kernel
theorem kd_X12_as : aKd m_X12_as 2 := ⟨wd_48_15, wd_1_5, ⟨by decide +kernel, by decide +kernel, by decide +kernel⟩⟩
set_option maxRecDepth 100000 in
set_option maxHeartbeats 4000000 in
theorem l_X12_as_29   (σ : aSt) (o : Int32 × aSt) (h : f_X12_as_29   σ = some o) : AW true m_X12_as 29 [] [] σ 0 0 (some (.int o.1)) o.2 := by
  unfold f_X12_as_29 at h
  refine w_ldc (v := (-1000001)) dX12_as_29 wd_10_21 ?_
  obtain rfl := Option.some.inj h
  exact w_ireturn dX12_as_31 rfl (Nat.le_of_ble_eq_true rfl) (Nat.le_of_ble_eq_true rfl)
set_option maxRecDepth 100000 in
set_option maxHeartbeats 4000000 in
theorem l_X12_as_58  (t0 : Int32) (σ : aSt) (o : Int32 × aSt) (h : f_X12_as_58  t0 σ = some o) : AW true m_X12_as 58 [] [.int (t0)] σ 0 0 (some (.int o.1)) o.2 := by
  unfold f_X12_as_58 at h
  obtain rfl := Option.some.inj h
  exact w_ireturn dX12_as_58 rfl (Nat.le_of_ble_eq_true rfl) (Nat.le_of_ble_eq_true rfl)
set_option maxRecDepth 100000 in
set_option maxHeartbeats 4000000 in
theorem c_X12_as (p1 : Int32) (p2 : Int32) (σ : aSt) (o : Int32 × aSt) (h : f_X12_as p1 p2 σ = some o) : AM true m_X12_as [va_rf (some (57)), .int (p1), .int (p2)] σ (some (.int o.1)) o.2 := by
  refine AM_of2 (lv := [(0, va_rf (some (57))), (1, Value.int (p1)), (2, Value.int (p2))]) (by decide +kernel) rfl (Nat.le_of_ble_eq_true rfl) ?_
  unfold f_X12_as at h
  refine w_aload_n 0 ((some (57))) dX12_as_0 rfl rfl ?_
  refine w_iconst (v := 0) dX12_as_1 (by decide) ?_
  refine w_putI dX12_as_2 fl_RX12_102 (Or.inl rfl) rfl ⟨rfl, Or.inr ⟨rfl, by decide⟩⟩ ?_
  refine w_aload_n 0 ((some (57))) dX12_as_5 rfl rfl ?_
  refine w_iload_n 1 dX12_as_6 rfl rfl ?_
  replace h := e_bind h; obtain ⟨q1, e2, h⟩ := h
  refine w_callV1 (M2 := m_X12_numberOf) (av := [.int (p1)]) (ci := 12) (c_X12_numberOf _ _ _ e2) dX12_as_7 kd_X12_numberOf wd_15_15 wd_15_16 wd_15_17 rfl rfl ⟨rfl, Or.inr ⟨rfl, by decide⟩⟩ rfl ⟨Nat.le_of_ble_eq_true rfl, Nat.le_of_ble_eq_true rfl, Nat.le_of_ble_eq_true rfl, Nat.le_of_ble_eq_true rfl⟩ (Nat.le_of_ble_eq_true rfl) ?_
  refine w_istore_n dX12_as_10 rfl (by decide) rfl ?_
  refine w_iload_n 0 dX12_as_11 rfl rfl ?_
  refine w_ldc (v := (-1000000)) dX12_as_12 wd_15_11 ?_
  refine w_icmp_eq 29 dX12_as_14 (by decide) (fun c3 => ?_) (fun c3 => ?_)
  · replace h := e_t c3 h
    refine w_sub [] rfl ?_
    exact l_X12_as_29 _ _ h
  · replace h := e_f c3 h
    refine w_iload_n 3 dX12_as_17 rfl rfl ?_
    refine w_i2l dX12_as_18 ?_
    refine w_lconst (v := 0) dX12_as_19 (by decide) ?_
    refine w_ldc2 (v := 3) dX12_as_20 wd_15_10 ?_
    replace h := e_bind h; obtain ⟨q4, e5, h⟩ := h
    refine w_callS1 (M2 := m_X12_in) (av := [.long (p2.toInt64), .long (0), .long (3)]) (c_X12_in _ _ _ _ _ e5) dX12_as_23 kd_X12_in wd_11_3 wd_11_4 rfl rfl ⟨Nat.le_of_ble_eq_true rfl, Nat.le_of_ble_eq_true rfl, Nat.le_of_ble_eq_true rfl, Nat.le_of_ble_eq_true rfl⟩ (Nat.le_of_ble_eq_true rfl) ?_
    refine w_if_ne 32 dX12_as_26 (by decide) (fun c6 => ?_) (fun c6 => ?_)
    · replace h := e_f c6 h
      refine w_aload_n 1 ((some (57))) dX12_as_32 rfl rfl ?_
      refine w_iconst (v := 0) dX12_as_33 (by decide) ?_
      refine w_putI dX12_as_34 fl_RX12_105 (Or.inl rfl) rfl ⟨rfl, Or.inr ⟨rfl, by decide⟩⟩ ?_
      refine w_aload_n 1 ((some (57))) dX12_as_37 rfl rfl ?_
      refine w_iload_n 0 dX12_as_38 rfl rfl ?_
      replace h := e_bind h; obtain ⟨q7, e8, h⟩ := h
      refine w_callV1 (M2 := m_X12_kindOf) (av := [.int (q1.1)]) (ci := 12) (c_X12_kindOf _ _ _ e8) dX12_as_39 kd_X12_kindOf wd_48_4 wd_48_5 wd_48_6 rfl rfl ⟨rfl, Or.inr ⟨rfl, by decide⟩⟩ rfl ⟨Nat.le_of_ble_eq_true rfl, Nat.le_of_ble_eq_true rfl, Nat.le_of_ble_eq_true rfl, Nat.le_of_ble_eq_true rfl⟩ (Nat.le_of_ble_eq_true rfl) ?_
      refine w_iload_n 3 dX12_as_42 rfl rfl ?_
      replace h := e_bind h; obtain ⟨q9, e10, h⟩ := h
      refine w_callS1 (M2 := m_X12_isOf) (av := [.int (q7.1), .int (p2)]) (c_X12_isOf _ _ _ _ e10) dX12_as_43 kd_X12_isOf wd_48_16 wd_48_17 rfl rfl ⟨Nat.le_of_ble_eq_true rfl, Nat.le_of_ble_eq_true rfl, Nat.le_of_ble_eq_true rfl, Nat.le_of_ble_eq_true rfl⟩ (Nat.le_of_ble_eq_true rfl) ?_
      refine w_if_eq 53 dX12_as_46 (by decide) (fun c11 => ?_) (fun c11 => ?_)
      · replace h := e_t c11 h
        refine w_aload_n 1 ((some (57))) dX12_as_53 rfl rfl ?_
        refine w_iconst (v := 3) dX12_as_54 (by decide) ?_
        replace h := e_bind h; obtain ⟨q12, e13, h⟩ := h
        refine w_callV1 (M2 := m_X12_found) (av := [.int (3)]) (ci := 12) (c_X12_found _ _ _ e13) dX12_as_55 kd_X12_found wd_11_6 wd_11_7 wd_11_8 rfl rfl ⟨rfl, Or.inr ⟨rfl, by decide⟩⟩ rfl ⟨Nat.le_of_ble_eq_true rfl, Nat.le_of_ble_eq_true rfl, Nat.le_of_ble_eq_true rfl, Nat.le_of_ble_eq_true rfl⟩ (Nat.le_of_ble_eq_true rfl) ?_
        refine w_sub [] rfl ?_
        exact l_X12_as_58 _ _ _ h
      · replace h := e_f c11 h
        refine w_iload_n 0 dX12_as_49 rfl rfl ?_
        refine w_goto 58 dX12_as_50 (by decide) ?_
        refine w_sub [] rfl ?_
        exact l_X12_as_58 _ _ _ h
    · replace h := e_t c6 h
      refine w_sub [] rfl ?_
      exact l_X12_as_29 _ _ h
theorem dX12_began_0 : decode cX12_began 0 = .ok (.aload_n 0, 1) := by decide +kernel
theorem dX12_began_1 : decode cX12_began 1 = .ok (.getfield 352, 3) := by decide +kernel
theorem dX12_began_4 : decode cX12_began 4 = .ok (.bipush 16, 2) := by decide +kernel
theorem dX12_began_6 : decode cX12_began 6 = .ok (.if_icmp .ge 23, 3) := by decide +kernel
theorem dX12_began_9 : decode cX12_began 9 = .ok (.aload_n 0, 1) := by decide +kernel
theorem dX12_began_10 : decode cX12_began 10 = .ok (.getfield 99, 3) := by decide +kernel
theorem dX12_began_13 : decode cX12_began 13 = .ok (.aload_n 0, 1) := by decide +kernel
theorem dX12_began_14 : decode cX12_began 14 = .ok (.getfield 352, 3) := by decide +kernel
theorem dX12_began_17 : decode cX12_began 17 = .ok (.iload_n 1, 1) := by decide +kernel
theorem dX12_began_18 : decode cX12_began 18 = .ok (.iastore, 1) := by decide +kernel
theorem dX12_began_19 : decode cX12_began 19 = .ok (.aload_n 0, 1) := by decide +kernel
theorem dX12_began_20 : decode cX12_began 20 = .ok (.dup, 1) := by decide +kernel
theorem dX12_began_21 : decode cX12_began 21 = .ok (.getfield 352, 3) := by decide +kernel
theorem dX12_began_24 : decode cX12_began 24 = .ok (.iconst 1, 1) := by decide +kernel
theorem dX12_began_25 : decode cX12_began 25 = .ok (.iadd, 1) := by decide +kernel
theorem dX12_began_26 : decode cX12_began 26 = .ok (.putfield 352, 3) := by decide +kernel
theorem dX12_began_29 : decode cX12_began 29 = .ok (.return_, 1) := by decide +kernel
theorem kd_X12_began : aKd m_X12_began 1 := ⟨wd_50_2, wd_1_5, ⟨by decide +kernel, by decide +kernel, by decide +kernel⟩⟩
set_option maxRecDepth 100000 in
set_option maxHeartbeats 4000000 in
theorem l_X12_began_29   (σ : aSt) (o : Unit × aSt) (h : f_X12_began_29   σ = some o) : AW true m_X12_began 29 [] [] σ 0 0 none o.2 := by
  unfold f_X12_began_29 at h
  obtain rfl := Option.some.inj h
  exact w_vreturn dX12_began_29 rfl (Nat.le_of_ble_eq_true rfl) (Nat.le_of_ble_eq_true rfl)
set_option maxRecDepth 100000 in
set_option maxHeartbeats 4000000 in
theorem c_X12_began (p1 : Int32) (σ : aSt) (o : Unit × aSt) (h : f_X12_began p1 σ = some o) : AM true m_X12_began [va_rf (some (57)), .int (p1)] σ none o.2 := by
  refine AM_of2 (lv := [(0, va_rf (some (57))), (1, Value.int (p1))]) (by decide +kernel) rfl (Nat.le_of_ble_eq_true rfl) ?_
  unfold f_X12_began at h
  refine w_aload_n 0 ((some (57))) dX12_began_0 rfl rfl ?_
  refine w_get dX12_began_1 fl_RX12_352 ⟨rfl, Or.inr ⟨rfl, by decide⟩⟩ (aFv_i rfl) ?_
  refine w_bipush (v := 16) dX12_began_4 (by decide) ?_
  refine w_icmp_ge 29 dX12_began_6 (by decide) (fun c1 => ?_) (fun c1 => ?_)
  · replace h := e_t c1 h
    refine w_sub [] rfl ?_
    exact l_X12_began_29 _ _ h
  · replace h := e_f c1 h
    refine w_aload_n 0 ((some (57))) dX12_began_9 rfl rfl ?_
    refine w_get (v := va_rf (some 83)) dX12_began_10 fl_RX12_99 ⟨rfl, Or.inr ⟨rfl, by decide⟩⟩ (aFv_k rfl) ?_
    refine w_aload_n 0 ((some (57))) dX12_began_13 rfl rfl ?_
    refine w_get dX12_began_14 fl_RX12_352 ⟨rfl, Or.inr ⟨rfl, by decide⟩⟩ (aFv_i rfl) ?_
    refine w_iload_n 1 dX12_began_17 rfl rfl ?_
    replace h := e_grd h; obtain ⟨b2, h⟩ := h
    refine w_iastore dX12_began_18 ⟨rfl, Or.inr ⟨rfl, by decide⟩⟩ b2 ?_
    refine w_aload_n 0 ((some (57))) dX12_began_19 rfl rfl ?_
    refine w_dup dX12_began_20 (aRf_cat _) ?_
    refine w_get dX12_began_21 fl_RX12_352 ⟨rfl, Or.inr ⟨rfl, by decide⟩⟩ (aFv_i rfl) ?_
    refine w_iconst (v := 1) dX12_began_24 (by decide) ?_
    refine w_iadd dX12_began_25 ?_
    refine w_putI dX12_began_26 fl_RX12_352 (Or.inl rfl) rfl ⟨rfl, Or.inr ⟨rfl, by decide⟩⟩ ?_
    refine w_sub [] rfl ?_
    exact l_X12_began_29 _ _ h
theorem dX12_heldWorth_0 : decode cX12_heldWorth 0 = .ok (.iload_n 2, 1) := by decide +kernel
theorem dX12_heldWorth_1 : decode cX12_heldWorth 1 = .ok (.iconst 2, 1) := by decide +kernel
theorem dX12_heldWorth_2 : decode cX12_heldWorth 2 = .ok (.if_icmp .ne 9, 3) := by decide +kernel
theorem dX12_heldWorth_5 : decode cX12_heldWorth 5 = .ok (.aload_n 0, 1) := by decide +kernel
theorem dX12_heldWorth_6 : decode cX12_heldWorth 6 = .ok (.bipush 12, 2) := by decide +kernel
theorem dX12_heldWorth_8 : decode cX12_heldWorth 8 = .ok (.invokevirtual 355, 3) := by decide +kernel
theorem dX12_heldWorth_11 : decode cX12_heldWorth 11 = .ok (.aload_n 0, 1) := by decide +kernel
theorem dX12_heldWorth_12 : decode cX12_heldWorth 12 = .ok (.bipush 11, 2) := by decide +kernel
theorem dX12_heldWorth_14 : decode cX12_heldWorth 14 = .ok (.invokevirtual 355, 3) := by decide +kernel
theorem dX12_heldWorth_17 : decode cX12_heldWorth 17 = .ok (.aload_n 0, 1) := by decide +kernel
theorem dX12_heldWorth_18 : decode cX12_heldWorth 18 = .ok (.bipush 10, 2) := by decide +kernel
theorem dX12_heldWorth_20 : decode cX12_heldWorth 20 = .ok (.invokevirtual 355, 3) := by decide +kernel
theorem dX12_heldWorth_23 : decode cX12_heldWorth 23 = .ok (.aload_n 0, 1) := by decide +kernel
theorem dX12_heldWorth_24 : decode cX12_heldWorth 24 = .ok (.getfield 31, 3) := by decide +kernel
theorem dX12_heldWorth_27 : decode cX12_heldWorth 27 = .ok (.iload_n 1, 1) := by decide +kernel
theorem dX12_heldWorth_28 : decode cX12_heldWorth 28 = .ok (.iaload, 1) := by decide +kernel
theorem dX12_heldWorth_29 : decode cX12_heldWorth 29 = .ok (.aload_n 0, 1) := by decide +kernel
theorem dX12_heldWorth_30 : decode cX12_heldWorth 30 = .ok (.iload_n 1, 1) := by decide +kernel
theorem dX12_heldWorth_31 : decode cX12_heldWorth 31 = .ok (.iconst 0, 1) := by decide +kernel
theorem dX12_heldWorth_32 : decode cX12_heldWorth 32 = .ok (.invokevirtual 311, 3) := by decide +kernel
theorem dX12_heldWorth_35 : decode cX12_heldWorth 35 = .ok (.isub, 1) := by decide +kernel
theorem dX12_heldWorth_36 : decode cX12_heldWorth 36 = .ok (.istore_n 3, 1) := by decide +kernel
theorem dX12_heldWorth_37 : decode cX12_heldWorth 37 = .ok (.iload_n 2, 1) := by decide +kernel
theorem dX12_heldWorth_38 : decode cX12_heldWorth 38 = .ok (.iconst 2, 1) := by decide +kernel
theorem dX12_heldWorth_39 : decode cX12_heldWorth 39 = .ok (.if_icmp .ne 9, 3) := by decide +kernel
theorem dX12_heldWorth_42 : decode cX12_heldWorth 42 = .ok (.iload_n 3, 1) := by decide +kernel
theorem dX12_heldWorth_43 : decode cX12_heldWorth 43 = .ok (.iconst 2, 1) := by decide +kernel
theorem dX12_heldWorth_44 : decode cX12_heldWorth 44 = .ok (.idiv, 1) := by decide +kernel
theorem dX12_heldWorth_45 : decode cX12_heldWorth 45 = .ok (.goto 4, 3) := by decide +kernel
theorem dX12_heldWorth_48 : decode cX12_heldWorth 48 = .ok (.iload_n 3, 1) := by decide +kernel
theorem dX12_heldWorth_49 : decode cX12_heldWorth 49 = .ok (.ireturn, 1) := by decide +kernel
theorem kd_X12_heldWorth : aKd m_X12_heldWorth 2 := ⟨wd_49_22, wd_1_5, ⟨by decide +kernel, by decide +kernel, by decide +kernel⟩⟩
set_option maxRecDepth 100000 in
set_option maxHeartbeats 4000000 in
theorem l_X12_heldWorth_49  (t0 : Int32) (σ : aSt) (o : Int32 × aSt) (h : f_X12_heldWorth_49  t0 σ = some o) : AW true m_X12_heldWorth 49 [] [.int (t0)] σ 0 0 (some (.int o.1)) o.2 := by
  unfold f_X12_heldWorth_49 at h
  obtain rfl := Option.some.inj h
  exact w_ireturn dX12_heldWorth_49 rfl (Nat.le_of_ble_eq_true rfl) (Nat.le_of_ble_eq_true rfl)
set_option maxRecDepth 100000 in
set_option maxHeartbeats 4000000 in
theorem l_X12_heldWorth_11  (x1 : Int32) (x2 : Int32) (σ : aSt) (o : Int32 × aSt) (h : f_X12_heldWorth_11  x1 x2 σ = some o) : AW true m_X12_heldWorth 11 [(0, va_rf (some (57))), (1, Value.int (x1)), (2, Value.int (x2))] [] σ 0 0 (some (.int o.1)) o.2 := by
  unfold f_X12_heldWorth_11 at h
  refine w_aload_n 0 ((some (57))) dX12_heldWorth_11 rfl rfl ?_
  refine w_bipush (v := 11) dX12_heldWorth_12 (by decide) ?_
  replace h := e_bind h; obtain ⟨q4, e5, h⟩ := h
  refine w_callV0 (M2 := m_X12_began) (av := [.int (11)]) (ci := 12) (c_X12_began _ _ _ e5) dX12_heldWorth_14 kd_X12_began wd_49_23 wd_50_0 wd_50_1 rfl rfl ⟨rfl, Or.inr ⟨rfl, by decide⟩⟩ rfl ⟨Nat.le_of_ble_eq_true rfl, Nat.le_of_ble_eq_true rfl, Nat.le_of_ble_eq_true rfl, Nat.le_of_ble_eq_true rfl⟩ (Nat.le_of_ble_eq_true rfl) ?_
  refine w_aload_n 0 ((some (57))) dX12_heldWorth_17 rfl rfl ?_
  refine w_bipush (v := 10) dX12_heldWorth_18 (by decide) ?_
  replace h := e_bind h; obtain ⟨q6, e7, h⟩ := h
  refine w_callV0 (M2 := m_X12_began) (av := [.int (10)]) (ci := 12) (c_X12_began _ _ _ e7) dX12_heldWorth_20 kd_X12_began wd_49_23 wd_50_0 wd_50_1 rfl rfl ⟨rfl, Or.inr ⟨rfl, by decide⟩⟩ rfl ⟨Nat.le_of_ble_eq_true rfl, Nat.le_of_ble_eq_true rfl, Nat.le_of_ble_eq_true rfl, Nat.le_of_ble_eq_true rfl⟩ (Nat.le_of_ble_eq_true rfl) ?_
  refine w_aload_n 0 ((some (57))) dX12_heldWorth_23 rfl rfl ?_
  refine w_get (v := va_rf (some 65)) dX12_heldWorth_24 fl_RX12_31 ⟨rfl, Or.inr ⟨rfl, by decide⟩⟩ (aFv_k rfl) ?_
  refine w_iload_n 1 dX12_heldWorth_27 rfl rfl ?_
  replace h := e_grd h; obtain ⟨b8, h⟩ := h
  refine w_iaload dX12_heldWorth_28 ⟨rfl, Or.inr ⟨rfl, by decide⟩⟩ b8 ?_
  refine w_aload_n 0 ((some (57))) dX12_heldWorth_29 rfl rfl ?_
  refine w_iload_n 1 dX12_heldWorth_30 rfl rfl ?_
  refine w_iconst (v := 0) dX12_heldWorth_31 (by decide) ?_
  replace h := e_bind h; obtain ⟨q9, e10, h⟩ := h
  refine w_callV1 (M2 := m_X12_scoreOf) (av := [.int (x1), .int (0)]) (ci := 12) (c_X12_scoreOf _ _ _ _ e10) dX12_heldWorth_32 kd_X12_scoreOf wd_38_8 wd_38_9 wd_38_10 rfl rfl ⟨rfl, Or.inr ⟨rfl, by decide⟩⟩ rfl ⟨Nat.le_of_ble_eq_true rfl, Nat.le_of_ble_eq_true rfl, Nat.le_of_ble_eq_true rfl, Nat.le_of_ble_eq_true rfl⟩ (Nat.le_of_ble_eq_true rfl) ?_
  refine w_isub dX12_heldWorth_35 ?_
  refine w_istore_n dX12_heldWorth_36 rfl (by decide) rfl ?_
  refine w_iload_n 3 dX12_heldWorth_37 rfl rfl ?_
  refine w_iconst (v := 2) dX12_heldWorth_38 (by decide) ?_
  refine w_icmp_ne 48 dX12_heldWorth_39 (by decide) (fun c11 => ?_) (fun c11 => ?_)
  · replace h := e_f c11 h
    refine w_iload_n 0 dX12_heldWorth_48 rfl rfl ?_
    refine w_sub [] rfl ?_
    exact l_X12_heldWorth_49 _ _ _ h
  · replace h := e_t c11 h
    refine w_iload_n 0 dX12_heldWorth_42 rfl rfl ?_
    refine w_iconst (v := 2) dX12_heldWorth_43 (by decide) ?_
    refine w_idiv dX12_heldWorth_44 (by decide) ?_
    refine w_goto 49 dX12_heldWorth_45 (by decide) ?_
    refine w_sub [] rfl ?_
    exact l_X12_heldWorth_49 _ _ _ h
set_option maxRecDepth 100000 in
set_option maxHeartbeats 4000000 in
theorem c_X12_heldWorth (p1 : Int32) (p2 : Int32) (σ : aSt) (o : Int32 × aSt) (h : f_X12_heldWorth p1 p2 σ = some o) : AM true m_X12_heldWorth [va_rf (some (57)), .int (p1), .int (p2)] σ (some (.int o.1)) o.2 := by
  refine AM_of2 (lv := [(0, va_rf (some (57))), (1, Value.int (p1)), (2, Value.int (p2))]) (by decide +kernel) rfl (Nat.le_of_ble_eq_true rfl) ?_
  unfold f_X12_heldWorth at h
  refine w_iload_n 2 dX12_heldWorth_0 rfl rfl ?_
  refine w_iconst (v := 2) dX12_heldWorth_1 (by decide) ?_
  refine w_icmp_ne 11 dX12_heldWorth_2 (by decide) (fun c1 => ?_) (fun c1 => ?_)
  · replace h := e_f c1 h
    exact l_X12_heldWorth_11 _ _ _ _ h
  · replace h := e_t c1 h
    refine w_aload_n 0 ((some (57))) dX12_heldWorth_5 rfl rfl ?_
    refine w_bipush (v := 12) dX12_heldWorth_6 (by decide) ?_
    replace h := e_bind h; obtain ⟨q2, e3, h⟩ := h
    refine w_callV0 (M2 := m_X12_began) (av := [.int (12)]) (ci := 12) (c_X12_began _ _ _ e3) dX12_heldWorth_8 kd_X12_began wd_49_23 wd_50_0 wd_50_1 rfl rfl ⟨rfl, Or.inr ⟨rfl, by decide⟩⟩ rfl ⟨Nat.le_of_ble_eq_true rfl, Nat.le_of_ble_eq_true rfl, Nat.le_of_ble_eq_true rfl, Nat.le_of_ble_eq_true rfl⟩ (Nat.le_of_ble_eq_true rfl) ?_
    exact l_X12_heldWorth_11 _ _ _ _ h
theorem dX12_markOf_0 : decode cX12_markOf 0 = .ok (.iload_n 2, 1) := by decide +kernel
theorem dX12_markOf_1 : decode cX12_markOf 1 = .ok (.iconst 2, 1) := by decide +kernel
theorem dX12_markOf_2 : decode cX12_markOf 2 = .ok (.if_icmp .ne 9, 3) := by decide +kernel
theorem dX12_markOf_5 : decode cX12_markOf 5 = .ok (.aload_n 0, 1) := by decide +kernel
theorem dX12_markOf_6 : decode cX12_markOf 6 = .ok (.bipush 22, 2) := by decide +kernel
theorem dX12_markOf_8 : decode cX12_markOf 8 = .ok (.invokevirtual 355, 3) := by decide +kernel
theorem dX12_markOf_11 : decode cX12_markOf 11 = .ok (.iload_n 2, 1) := by decide +kernel
theorem dX12_markOf_12 : decode cX12_markOf 12 = .ok (.iconst 1, 1) := by decide +kernel
theorem dX12_markOf_13 : decode cX12_markOf 13 = .ok (.invokestatic 349, 3) := by decide +kernel
theorem dX12_markOf_16 : decode cX12_markOf 16 = .ok (.ifCond .eq 9, 3) := by decide +kernel
theorem dX12_markOf_19 : decode cX12_markOf 19 = .ok (.aload_n 0, 1) := by decide +kernel
theorem dX12_markOf_20 : decode cX12_markOf 20 = .ok (.bipush 21, 2) := by decide +kernel
theorem dX12_markOf_22 : decode cX12_markOf 22 = .ok (.invokevirtual 355, 3) := by decide +kernel
theorem dX12_markOf_25 : decode cX12_markOf 25 = .ok (.iload_n 2, 1) := by decide +kernel
theorem dX12_markOf_26 : decode cX12_markOf 26 = .ok (.iconst 3, 1) := by decide +kernel
theorem dX12_markOf_27 : decode cX12_markOf 27 = .ok (.if_icmp .ne 9, 3) := by decide +kernel
theorem dX12_markOf_30 : decode cX12_markOf 30 = .ok (.aload_n 0, 1) := by decide +kernel
theorem dX12_markOf_31 : decode cX12_markOf 31 = .ok (.bipush 23, 2) := by decide +kernel
theorem dX12_markOf_33 : decode cX12_markOf 33 = .ok (.invokevirtual 355, 3) := by decide +kernel
theorem dX12_markOf_36 : decode cX12_markOf 36 = .ok (.aload_n 0, 1) := by decide +kernel
theorem dX12_markOf_37 : decode cX12_markOf 37 = .ok (.bipush 20, 2) := by decide +kernel
theorem dX12_markOf_39 : decode cX12_markOf 39 = .ok (.invokevirtual 355, 3) := by decide +kernel
theorem dX12_markOf_42 : decode cX12_markOf 42 = .ok (.aload_n 0, 1) := by decide +kernel
theorem dX12_markOf_43 : decode cX12_markOf 43 = .ok (.getfield 34, 3) := by decide +kernel
theorem dX12_markOf_46 : decode cX12_markOf 46 = .ok (.iload_n 1, 1) := by decide +kernel
theorem dX12_markOf_47 : decode cX12_markOf 47 = .ok (.iaload, 1) := by decide +kernel
theorem dX12_markOf_48 : decode cX12_markOf 48 = .ok (.iload_n 2, 1) := by decide +kernel
theorem dX12_markOf_49 : decode cX12_markOf 49 = .ok (.iconst 1, 1) := by decide +kernel
theorem dX12_markOf_50 : decode cX12_markOf 50 = .ok (.invokestatic 349, 3) := by decide +kernel
theorem dX12_markOf_53 : decode cX12_markOf 53 = .ok (.ifCond .eq 12, 3) := by decide +kernel
theorem dX12_markOf_56 : decode cX12_markOf 56 = .ok (.aload_n 0, 1) := by decide +kernel
theorem dX12_markOf_57 : decode cX12_markOf 57 = .ok (.iload_n 1, 1) := by decide +kernel
theorem dX12_markOf_58 : decode cX12_markOf 58 = .ok (.iload_n 2, 1) := by decide +kernel
theorem dX12_markOf_59 : decode cX12_markOf 59 = .ok (.invokevirtual 358, 3) := by decide +kernel
theorem dX12_markOf_62 : decode cX12_markOf 62 = .ok (.goto 18, 3) := by decide +kernel
theorem dX12_markOf_65 : decode cX12_markOf 65 = .ok (.iload_n 2, 1) := by decide +kernel
theorem dX12_markOf_66 : decode cX12_markOf 66 = .ok (.iconst 3, 1) := by decide +kernel
theorem dX12_markOf_67 : decode cX12_markOf 67 = .ok (.if_icmp .ne 12, 3) := by decide +kernel
theorem dX12_markOf_70 : decode cX12_markOf 70 = .ok (.aload_n 0, 1) := by decide +kernel
theorem dX12_markOf_71 : decode cX12_markOf 71 = .ok (.getfield 25, 3) := by decide +kernel
theorem dX12_markOf_74 : decode cX12_markOf 74 = .ok (.iload_n 1, 1) := by decide +kernel
theorem dX12_markOf_75 : decode cX12_markOf 75 = .ok (.iaload, 1) := by decide +kernel
theorem dX12_markOf_76 : decode cX12_markOf 76 = .ok (.goto 4, 3) := by decide +kernel
theorem dX12_markOf_79 : decode cX12_markOf 79 = .ok (.iconst 0, 1) := by decide +kernel
theorem dX12_markOf_80 : decode cX12_markOf 80 = .ok (.iadd, 1) := by decide +kernel
theorem dX12_markOf_81 : decode cX12_markOf 81 = .ok (.istore_n 3, 1) := by decide +kernel
theorem dX12_markOf_82 : decode cX12_markOf 82 = .ok (.iload_n 2, 1) := by decide +kernel
theorem dX12_markOf_83 : decode cX12_markOf 83 = .ok (.iconst 2, 1) := by decide +kernel
theorem dX12_markOf_84 : decode cX12_markOf 84 = .ok (.if_icmp .ne 10, 3) := by decide +kernel
theorem dX12_markOf_87 : decode cX12_markOf 87 = .ok (.iload_n 3, 1) := by decide +kernel
theorem dX12_markOf_88 : decode cX12_markOf 88 = .ok (.bipush 100, 2) := by decide +kernel
theorem dX12_markOf_90 : decode cX12_markOf 90 = .ok (.iadd, 1) := by decide +kernel
theorem dX12_markOf_91 : decode cX12_markOf 91 = .ok (.goto 4, 3) := by decide +kernel
theorem dX12_markOf_94 : decode cX12_markOf 94 = .ok (.iload_n 3, 1) := by decide +kernel
theorem dX12_markOf_95 : decode cX12_markOf 95 = .ok (.ireturn, 1) := by decide +kernel
theorem kd_X12_markOf : aKd m_X12_markOf 2 := ⟨wd_50_6, wd_1_5, ⟨by decide +kernel, by decide +kernel, by decide +kernel⟩⟩
set_option maxRecDepth 100000 in
set_option maxHeartbeats 4000000 in
theorem l_X12_markOf_95  (t0 : Int32) (σ : aSt) (o : Int32 × aSt) (h : f_X12_markOf_95  t0 σ = some o) : AW true m_X12_markOf 95 [] [.int (t0)] σ 0 0 (some (.int o.1)) o.2 := by
  unfold f_X12_markOf_95 at h
  obtain rfl := Option.some.inj h
  exact w_ireturn dX12_markOf_95 rfl (Nat.le_of_ble_eq_true rfl) (Nat.le_of_ble_eq_true rfl)
set_option maxRecDepth 100000 in
set_option maxHeartbeats 4000000 in
theorem l_X12_markOf_80  (x2 : Int32) (t0 : Int32) (t1 : Int32) (σ : aSt) (o : Int32 × aSt) (h : f_X12_markOf_80  x2 t0 t1 σ = some o) : AW true m_X12_markOf 80 [(2, Value.int (x2))] [.int (t1), .int (t0)] σ 0 0 (some (.int o.1)) o.2 := by
  unfold f_X12_markOf_80 at h
  refine w_iadd dX12_markOf_80 ?_
  refine w_istore_n dX12_markOf_81 rfl (by decide) rfl ?_
  refine w_iload_n 1 dX12_markOf_82 rfl rfl ?_
  refine w_iconst (v := 2) dX12_markOf_83 (by decide) ?_
  refine w_icmp_ne 94 dX12_markOf_84 (by decide) (fun c4 => ?_) (fun c4 => ?_)
  · replace h := e_f c4 h
    refine w_iload_n 0 dX12_markOf_94 rfl rfl ?_
    refine w_sub [] rfl ?_
    exact l_X12_markOf_95 _ _ _ h
  · replace h := e_t c4 h
    refine w_iload_n 0 dX12_markOf_87 rfl rfl ?_
    refine w_bipush (v := 100) dX12_markOf_88 (by decide) ?_
    refine w_iadd dX12_markOf_90 ?_
    refine w_goto 95 dX12_markOf_91 (by decide) ?_
    refine w_sub [] rfl ?_
    exact l_X12_markOf_95 _ _ _ h
set_option maxRecDepth 100000 in
set_option maxHeartbeats 4000000 in
theorem l_X12_markOf_36  (x1 : Int32) (x2 : Int32) (σ : aSt) (o : Int32 × aSt) (h : f_X12_markOf_36  x1 x2 σ = some o) : AW true m_X12_markOf 36 [(0, va_rf (some (57))), (1, Value.int (x1)), (2, Value.int (x2))] [] σ 0 0 (some (.int o.1)) o.2 := by
  unfold f_X12_markOf_36 at h
  refine w_aload_n 0 ((some (57))) dX12_markOf_36 rfl rfl ?_
  refine w_bipush (v := 20) dX12_markOf_37 (by decide) ?_
  replace h := e_bind h; obtain ⟨q5, e6, h⟩ := h
  refine w_callV0 (M2 := m_X12_began) (av := [.int (20)]) (ci := 12) (c_X12_began _ _ _ e6) dX12_markOf_39 kd_X12_began wd_49_23 wd_50_0 wd_50_1 rfl rfl ⟨rfl, Or.inr ⟨rfl, by decide⟩⟩ rfl ⟨Nat.le_of_ble_eq_true rfl, Nat.le_of_ble_eq_true rfl, Nat.le_of_ble_eq_true rfl, Nat.le_of_ble_eq_true rfl⟩ (Nat.le_of_ble_eq_true rfl) ?_
  refine w_aload_n 0 ((some (57))) dX12_markOf_42 rfl rfl ?_
  refine w_get (v := va_rf (some 66)) dX12_markOf_43 fl_RX12_34 ⟨rfl, Or.inr ⟨rfl, by decide⟩⟩ (aFv_k rfl) ?_
  refine w_iload_n 1 dX12_markOf_46 rfl rfl ?_
  replace h := e_grd h; obtain ⟨b7, h⟩ := h
  refine w_iaload dX12_markOf_47 ⟨rfl, Or.inr ⟨rfl, by decide⟩⟩ b7 ?_
  refine w_iload_n 2 dX12_markOf_48 rfl rfl ?_
  refine w_iconst (v := 1) dX12_markOf_49 (by decide) ?_
  replace h := e_bind h; obtain ⟨q8, e9, h⟩ := h
  refine w_callS1 (M2 := m_X12_isOf) (av := [.int (x2), .int (1)]) (c_X12_isOf _ _ _ _ e9) dX12_markOf_50 kd_X12_isOf wd_48_16 wd_48_17 rfl rfl ⟨Nat.le_of_ble_eq_true rfl, Nat.le_of_ble_eq_true rfl, Nat.le_of_ble_eq_true rfl, Nat.le_of_ble_eq_true rfl⟩ (Nat.le_of_ble_eq_true rfl) ?_
  refine w_if_eq 65 dX12_markOf_53 (by decide) (fun c10 => ?_) (fun c10 => ?_)
  · replace h := e_t c10 h
    refine w_iload_n 2 dX12_markOf_65 rfl rfl ?_
    refine w_iconst (v := 3) dX12_markOf_66 (by decide) ?_
    refine w_icmp_ne 79 dX12_markOf_67 (by decide) (fun c11 => ?_) (fun c11 => ?_)
    · replace h := e_f c11 h
      refine w_iconst (v := 0) dX12_markOf_79 (by decide) ?_
      refine w_sub [2] rfl ?_
      exact l_X12_markOf_80 _ _ _ _ _ h
    · replace h := e_t c11 h
      refine w_aload_n 0 ((some (57))) dX12_markOf_70 rfl rfl ?_
      refine w_get (v := va_rf (some 63)) dX12_markOf_71 fl_RX12_25 ⟨rfl, Or.inr ⟨rfl, by decide⟩⟩ (aFv_k rfl) ?_
      refine w_iload_n 1 dX12_markOf_74 rfl rfl ?_
      replace h := e_grd h; obtain ⟨b12, h⟩ := h
      refine w_iaload dX12_markOf_75 ⟨rfl, Or.inr ⟨rfl, by decide⟩⟩ b12 ?_
      refine w_goto 80 dX12_markOf_76 (by decide) ?_
      refine w_sub [2] rfl ?_
      exact l_X12_markOf_80 _ _ _ _ _ h
  · replace h := e_f c10 h
    refine w_aload_n 0 ((some (57))) dX12_markOf_56 rfl rfl ?_
    refine w_iload_n 1 dX12_markOf_57 rfl rfl ?_
    refine w_iload_n 2 dX12_markOf_58 rfl rfl ?_
    replace h := e_bind h; obtain ⟨q13, e14, h⟩ := h
    refine w_callV1 (M2 := m_X12_heldWorth) (av := [.int (x1), .int (x2)]) (ci := 12) (c_X12_heldWorth _ _ _ _ e14) dX12_markOf_59 kd_X12_heldWorth wd_49_19 wd_49_20 wd_49_21 rfl rfl ⟨rfl, Or.inr ⟨rfl, by decide⟩⟩ rfl ⟨Nat.le_of_ble_eq_true rfl, Nat.le_of_ble_eq_true rfl, Nat.le_of_ble_eq_true rfl, Nat.le_of_ble_eq_true rfl⟩ (Nat.le_of_ble_eq_true rfl) ?_
    refine w_goto 80 dX12_markOf_62 (by decide) ?_
    refine w_sub [2] rfl ?_
    exact l_X12_markOf_80 _ _ _ _ _ h
set_option maxRecDepth 100000 in
set_option maxHeartbeats 4000000 in
theorem l_X12_markOf_25  (x1 : Int32) (x2 : Int32) (σ : aSt) (o : Int32 × aSt) (h : f_X12_markOf_25  x1 x2 σ = some o) : AW true m_X12_markOf 25 [(0, va_rf (some (57))), (1, Value.int (x1)), (2, Value.int (x2))] [] σ 0 0 (some (.int o.1)) o.2 := by
  unfold f_X12_markOf_25 at h
  refine w_iload_n 2 dX12_markOf_25 rfl rfl ?_
  refine w_iconst (v := 3) dX12_markOf_26 (by decide) ?_
  refine w_icmp_ne 36 dX12_markOf_27 (by decide) (fun c15 => ?_) (fun c15 => ?_)
  · replace h := e_f c15 h
    exact l_X12_markOf_36 _ _ _ _ h
  · replace h := e_t c15 h
    refine w_aload_n 0 ((some (57))) dX12_markOf_30 rfl rfl ?_
    refine w_bipush (v := 23) dX12_markOf_31 (by decide) ?_
    replace h := e_bind h; obtain ⟨q16, e17, h⟩ := h
    refine w_callV0 (M2 := m_X12_began) (av := [.int (23)]) (ci := 12) (c_X12_began _ _ _ e17) dX12_markOf_33 kd_X12_began wd_49_23 wd_50_0 wd_50_1 rfl rfl ⟨rfl, Or.inr ⟨rfl, by decide⟩⟩ rfl ⟨Nat.le_of_ble_eq_true rfl, Nat.le_of_ble_eq_true rfl, Nat.le_of_ble_eq_true rfl, Nat.le_of_ble_eq_true rfl⟩ (Nat.le_of_ble_eq_true rfl) ?_
    exact l_X12_markOf_36 _ _ _ _ h
set_option maxRecDepth 100000 in
set_option maxHeartbeats 4000000 in
theorem l_X12_markOf_11  (x1 : Int32) (x2 : Int32) (σ : aSt) (o : Int32 × aSt) (h : f_X12_markOf_11  x1 x2 σ = some o) : AW true m_X12_markOf 11 [(0, va_rf (some (57))), (1, Value.int (x1)), (2, Value.int (x2))] [] σ 0 0 (some (.int o.1)) o.2 := by
  unfold f_X12_markOf_11 at h
  refine w_iload_n 2 dX12_markOf_11 rfl rfl ?_
  refine w_iconst (v := 1) dX12_markOf_12 (by decide) ?_
  replace h := e_bind h; obtain ⟨q18, e19, h⟩ := h
  refine w_callS1 (M2 := m_X12_isOf) (av := [.int (x2), .int (1)]) (c_X12_isOf _ _ _ _ e19) dX12_markOf_13 kd_X12_isOf wd_48_16 wd_48_17 rfl rfl ⟨Nat.le_of_ble_eq_true rfl, Nat.le_of_ble_eq_true rfl, Nat.le_of_ble_eq_true rfl, Nat.le_of_ble_eq_true rfl⟩ (Nat.le_of_ble_eq_true rfl) ?_
  refine w_if_eq 25 dX12_markOf_16 (by decide) (fun c20 => ?_) (fun c20 => ?_)
  · replace h := e_t c20 h
    exact l_X12_markOf_25 _ _ _ _ h
  · replace h := e_f c20 h
    refine w_aload_n 0 ((some (57))) dX12_markOf_19 rfl rfl ?_
    refine w_bipush (v := 21) dX12_markOf_20 (by decide) ?_
    replace h := e_bind h; obtain ⟨q21, e22, h⟩ := h
    refine w_callV0 (M2 := m_X12_began) (av := [.int (21)]) (ci := 12) (c_X12_began _ _ _ e22) dX12_markOf_22 kd_X12_began wd_49_23 wd_50_0 wd_50_1 rfl rfl ⟨rfl, Or.inr ⟨rfl, by decide⟩⟩ rfl ⟨Nat.le_of_ble_eq_true rfl, Nat.le_of_ble_eq_true rfl, Nat.le_of_ble_eq_true rfl, Nat.le_of_ble_eq_true rfl⟩ (Nat.le_of_ble_eq_true rfl) ?_
    exact l_X12_markOf_25 _ _ _ _ h
set_option maxRecDepth 100000 in
set_option maxHeartbeats 4000000 in
theorem c_X12_markOf (p1 : Int32) (p2 : Int32) (σ : aSt) (o : Int32 × aSt) (h : f_X12_markOf p1 p2 σ = some o) : AM true m_X12_markOf [va_rf (some (57)), .int (p1), .int (p2)] σ (some (.int o.1)) o.2 := by
  refine AM_of2 (lv := [(0, va_rf (some (57))), (1, Value.int (p1)), (2, Value.int (p2))]) (by decide +kernel) rfl (Nat.le_of_ble_eq_true rfl) ?_
  unfold f_X12_markOf at h
  refine w_iload_n 2 dX12_markOf_0 rfl rfl ?_
  refine w_iconst (v := 2) dX12_markOf_1 (by decide) ?_
  refine w_icmp_ne 11 dX12_markOf_2 (by decide) (fun c1 => ?_) (fun c1 => ?_)
  · replace h := e_f c1 h
    exact l_X12_markOf_11 _ _ _ _ h
  · replace h := e_t c1 h
    refine w_aload_n 0 ((some (57))) dX12_markOf_5 rfl rfl ?_
    refine w_bipush (v := 22) dX12_markOf_6 (by decide) ?_
    replace h := e_bind h; obtain ⟨q2, e3, h⟩ := h
    refine w_callV0 (M2 := m_X12_began) (av := [.int (22)]) (ci := 12) (c_X12_began _ _ _ e3) dX12_markOf_8 kd_X12_began wd_49_23 wd_50_0 wd_50_1 rfl rfl ⟨rfl, Or.inr ⟨rfl, by decide⟩⟩ rfl ⟨Nat.le_of_ble_eq_true rfl, Nat.le_of_ble_eq_true rfl, Nat.le_of_ble_eq_true rfl, Nat.le_of_ble_eq_true rfl⟩ (Nat.le_of_ble_eq_true rfl) ?_
    exact l_X12_markOf_11 _ _ _ _ h
theorem dX12_worthOf_0 : decode cX12_worthOf 0 = .ok (.iload_n 2, 1) := by decide +kernel
theorem dX12_worthOf_1 : decode cX12_worthOf 1 = .ok (.iconst 1, 1) := by decide +kernel
theorem dX12_worthOf_2 : decode cX12_worthOf 2 = .ok (.invokestatic 349, 3) := by decide +kernel
theorem dX12_worthOf_5 : decode cX12_worthOf 5 = .ok (.ifCond .eq 10, 3) := by decide +kernel
theorem dX12_worthOf_8 : decode cX12_worthOf 8 = .ok (.aload_n 0, 1) := by decide +kernel
theorem dX12_worthOf_9 : decode cX12_worthOf 9 = .ok (.iload_n 1, 1) := by decide +kernel
theorem dX12_worthOf_10 : decode cX12_worthOf 10 = .ok (.iload_n 2, 1) := by decide +kernel
theorem dX12_worthOf_11 : decode cX12_worthOf 11 = .ok (.invokevirtual 358, 3) := by decide +kernel
theorem dX12_worthOf_14 : decode cX12_worthOf 14 = .ok (.ireturn, 1) := by decide +kernel
theorem dX12_worthOf_15 : decode cX12_worthOf 15 = .ok (.iload_n 2, 1) := by decide +kernel
theorem dX12_worthOf_16 : decode cX12_worthOf 16 = .ok (.iconst 3, 1) := by decide +kernel
theorem dX12_worthOf_17 : decode cX12_worthOf 17 = .ok (.if_icmp .ne 9, 3) := by decide +kernel
theorem dX12_worthOf_20 : decode cX12_worthOf 20 = .ok (.aload_n 0, 1) := by decide +kernel
theorem dX12_worthOf_21 : decode cX12_worthOf 21 = .ok (.bipush 13, 2) := by decide +kernel
theorem dX12_worthOf_23 : decode cX12_worthOf 23 = .ok (.invokevirtual 355, 3) := by decide +kernel
theorem dX12_worthOf_26 : decode cX12_worthOf 26 = .ok (.aload_n 0, 1) := by decide +kernel
theorem dX12_worthOf_27 : decode cX12_worthOf 27 = .ok (.bipush 10, 2) := by decide +kernel
theorem dX12_worthOf_29 : decode cX12_worthOf 29 = .ok (.invokevirtual 355, 3) := by decide +kernel
theorem dX12_worthOf_32 : decode cX12_worthOf 32 = .ok (.aload_n 0, 1) := by decide +kernel
theorem dX12_worthOf_33 : decode cX12_worthOf 33 = .ok (.getfield 31, 3) := by decide +kernel
theorem dX12_worthOf_36 : decode cX12_worthOf 36 = .ok (.iload_n 1, 1) := by decide +kernel
theorem dX12_worthOf_37 : decode cX12_worthOf 37 = .ok (.iaload, 1) := by decide +kernel
theorem dX12_worthOf_38 : decode cX12_worthOf 38 = .ok (.iload_n 2, 1) := by decide +kernel
theorem dX12_worthOf_39 : decode cX12_worthOf 39 = .ok (.iconst 3, 1) := by decide +kernel
theorem dX12_worthOf_40 : decode cX12_worthOf 40 = .ok (.if_icmp .ne 12, 3) := by decide +kernel
theorem dX12_worthOf_43 : decode cX12_worthOf 43 = .ok (.aload_n 0, 1) := by decide +kernel
theorem dX12_worthOf_44 : decode cX12_worthOf 44 = .ok (.iload_n 1, 1) := by decide +kernel
theorem dX12_worthOf_45 : decode cX12_worthOf 45 = .ok (.iload_n 2, 1) := by decide +kernel
theorem dX12_worthOf_46 : decode cX12_worthOf 46 = .ok (.invokevirtual 361, 3) := by decide +kernel
theorem dX12_worthOf_49 : decode cX12_worthOf 49 = .ok (.goto 4, 3) := by decide +kernel
theorem dX12_worthOf_52 : decode cX12_worthOf 52 = .ok (.iconst 0, 1) := by decide +kernel
theorem dX12_worthOf_53 : decode cX12_worthOf 53 = .ok (.iadd, 1) := by decide +kernel
theorem dX12_worthOf_54 : decode cX12_worthOf 54 = .ok (.ireturn, 1) := by decide +kernel
theorem kd_X12_worthOf : aKd m_X12_worthOf 2 := ⟨wd_49_18, wd_1_5, ⟨by decide +kernel, by decide +kernel, by decide +kernel⟩⟩
set_option maxRecDepth 100000 in
set_option maxHeartbeats 4000000 in
theorem l_X12_worthOf_53  (t0 : Int32) (t1 : Int32) (σ : aSt) (o : Int32 × aSt) (h : f_X12_worthOf_53  t0 t1 σ = some o) : AW true m_X12_worthOf 53 [] [.int (t1), .int (t0)] σ 0 0 (some (.int o.1)) o.2 := by
  unfold f_X12_worthOf_53 at h
  refine w_iadd dX12_worthOf_53 ?_
  obtain rfl := Option.some.inj h
  exact w_ireturn dX12_worthOf_54 rfl (Nat.le_of_ble_eq_true rfl) (Nat.le_of_ble_eq_true rfl)
set_option maxRecDepth 100000 in
set_option maxHeartbeats 4000000 in
theorem l_X12_worthOf_26  (x1 : Int32) (x2 : Int32) (σ : aSt) (o : Int32 × aSt) (h : f_X12_worthOf_26  x1 x2 σ = some o) : AW true m_X12_worthOf 26 [(0, va_rf (some (57))), (1, Value.int (x1)), (2, Value.int (x2))] [] σ 0 0 (some (.int o.1)) o.2 := by
  unfold f_X12_worthOf_26 at h
  refine w_aload_n 0 ((some (57))) dX12_worthOf_26 rfl rfl ?_
  refine w_bipush (v := 10) dX12_worthOf_27 (by decide) ?_
  replace h := e_bind h; obtain ⟨q9, e10, h⟩ := h
  refine w_callV0 (M2 := m_X12_began) (av := [.int (10)]) (ci := 12) (c_X12_began _ _ _ e10) dX12_worthOf_29 kd_X12_began wd_49_23 wd_50_0 wd_50_1 rfl rfl ⟨rfl, Or.inr ⟨rfl, by decide⟩⟩ rfl ⟨Nat.le_of_ble_eq_true rfl, Nat.le_of_ble_eq_true rfl, Nat.le_of_ble_eq_true rfl, Nat.le_of_ble_eq_true rfl⟩ (Nat.le_of_ble_eq_true rfl) ?_
  refine w_aload_n 0 ((some (57))) dX12_worthOf_32 rfl rfl ?_
  refine w_get (v := va_rf (some 65)) dX12_worthOf_33 fl_RX12_31 ⟨rfl, Or.inr ⟨rfl, by decide⟩⟩ (aFv_k rfl) ?_
  refine w_iload_n 1 dX12_worthOf_36 rfl rfl ?_
  replace h := e_grd h; obtain ⟨b11, h⟩ := h
  refine w_iaload dX12_worthOf_37 ⟨rfl, Or.inr ⟨rfl, by decide⟩⟩ b11 ?_
  refine w_iload_n 2 dX12_worthOf_38 rfl rfl ?_
  refine w_iconst (v := 3) dX12_worthOf_39 (by decide) ?_
  refine w_icmp_ne 52 dX12_worthOf_40 (by decide) (fun c12 => ?_) (fun c12 => ?_)
  · replace h := e_f c12 h
    refine w_iconst (v := 0) dX12_worthOf_52 (by decide) ?_
    refine w_sub [] rfl ?_
    exact l_X12_worthOf_53 _ _ _ _ h
  · replace h := e_t c12 h
    refine w_aload_n 0 ((some (57))) dX12_worthOf_43 rfl rfl ?_
    refine w_iload_n 1 dX12_worthOf_44 rfl rfl ?_
    refine w_iload_n 2 dX12_worthOf_45 rfl rfl ?_
    replace h := e_bind h; obtain ⟨q13, e14, h⟩ := h
    refine w_callV1 (M2 := m_X12_markOf) (av := [.int (x1), .int (x2)]) (ci := 12) (c_X12_markOf _ _ _ _ e14) dX12_worthOf_46 kd_X12_markOf wd_50_3 wd_50_4 wd_50_5 rfl rfl ⟨rfl, Or.inr ⟨rfl, by decide⟩⟩ rfl ⟨Nat.le_of_ble_eq_true rfl, Nat.le_of_ble_eq_true rfl, Nat.le_of_ble_eq_true rfl, Nat.le_of_ble_eq_true rfl⟩ (Nat.le_of_ble_eq_true rfl) ?_
    refine w_goto 53 dX12_worthOf_49 (by decide) ?_
    refine w_sub [] rfl ?_
    exact l_X12_worthOf_53 _ _ _ _ h
set_option maxRecDepth 100000 in
set_option maxHeartbeats 4000000 in
theorem c_X12_worthOf (p1 : Int32) (p2 : Int32) (σ : aSt) (o : Int32 × aSt) (h : f_X12_worthOf p1 p2 σ = some o) : AM true m_X12_worthOf [va_rf (some (57)), .int (p1), .int (p2)] σ (some (.int o.1)) o.2 := by
  refine AM_of2 (lv := [(0, va_rf (some (57))), (1, Value.int (p1)), (2, Value.int (p2))]) (by decide +kernel) rfl (Nat.le_of_ble_eq_true rfl) ?_
  unfold f_X12_worthOf at h
  refine w_iload_n 2 dX12_worthOf_0 rfl rfl ?_
  refine w_iconst (v := 1) dX12_worthOf_1 (by decide) ?_
  replace h := e_bind h; obtain ⟨q1, e2, h⟩ := h
  refine w_callS1 (M2 := m_X12_isOf) (av := [.int (p2), .int (1)]) (c_X12_isOf _ _ _ _ e2) dX12_worthOf_2 kd_X12_isOf wd_48_16 wd_48_17 rfl rfl ⟨Nat.le_of_ble_eq_true rfl, Nat.le_of_ble_eq_true rfl, Nat.le_of_ble_eq_true rfl, Nat.le_of_ble_eq_true rfl⟩ (Nat.le_of_ble_eq_true rfl) ?_
  refine w_if_eq 15 dX12_worthOf_5 (by decide) (fun c3 => ?_) (fun c3 => ?_)
  · replace h := e_t c3 h
    refine w_iload_n 2 dX12_worthOf_15 rfl rfl ?_
    refine w_iconst (v := 3) dX12_worthOf_16 (by decide) ?_
    refine w_icmp_ne 26 dX12_worthOf_17 (by decide) (fun c4 => ?_) (fun c4 => ?_)
    · replace h := e_f c4 h
      exact l_X12_worthOf_26 _ _ _ _ h
    · replace h := e_t c4 h
      refine w_aload_n 0 ((some (57))) dX12_worthOf_20 rfl rfl ?_
      refine w_bipush (v := 13) dX12_worthOf_21 (by decide) ?_
      replace h := e_bind h; obtain ⟨q5, e6, h⟩ := h
      refine w_callV0 (M2 := m_X12_began) (av := [.int (13)]) (ci := 12) (c_X12_began _ _ _ e6) dX12_worthOf_23 kd_X12_began wd_49_23 wd_50_0 wd_50_1 rfl rfl ⟨rfl, Or.inr ⟨rfl, by decide⟩⟩ rfl ⟨Nat.le_of_ble_eq_true rfl, Nat.le_of_ble_eq_true rfl, Nat.le_of_ble_eq_true rfl, Nat.le_of_ble_eq_true rfl⟩ (Nat.le_of_ble_eq_true rfl) ?_
      exact l_X12_worthOf_26 _ _ _ _ h
  · replace h := e_f c3 h
    refine w_aload_n 0 ((some (57))) dX12_worthOf_8 rfl rfl ?_
    refine w_iload_n 1 dX12_worthOf_9 rfl rfl ?_
    refine w_iload_n 2 dX12_worthOf_10 rfl rfl ?_
    replace h := e_bind h; obtain ⟨q7, e8, h⟩ := h
    refine w_callV1 (M2 := m_X12_heldWorth) (av := [.int (p1), .int (p2)]) (ci := 12) (c_X12_heldWorth _ _ _ _ e8) dX12_worthOf_11 kd_X12_heldWorth wd_49_19 wd_49_20 wd_49_21 rfl rfl ⟨rfl, Or.inr ⟨rfl, by decide⟩⟩ rfl ⟨Nat.le_of_ble_eq_true rfl, Nat.le_of_ble_eq_true rfl, Nat.le_of_ble_eq_true rfl, Nat.le_of_ble_eq_true rfl⟩ (Nat.le_of_ble_eq_true rfl) ?_
    obtain rfl := Option.some.inj h
    exact w_ireturn dX12_worthOf_14 rfl (Nat.le_of_ble_eq_true rfl) (Nat.le_of_ble_eq_true rfl)
theorem dX12_ask_0 : decode cX12_ask 0 = .ok (.aload_n 0, 1) := by decide +kernel
theorem dX12_ask_1 : decode cX12_ask 1 = .ok (.iconst 0, 1) := by decide +kernel
theorem dX12_ask_2 : decode cX12_ask 2 = .ok (.putfield 102, 3) := by decide +kernel
theorem dX12_ask_5 : decode cX12_ask 5 = .ok (.aload_n 0, 1) := by decide +kernel
theorem dX12_ask_6 : decode cX12_ask 6 = .ok (.iload_n 1, 1) := by decide +kernel
theorem dX12_ask_7 : decode cX12_ask 7 = .ok (.invokevirtual 138, 3) := by decide +kernel
theorem dX12_ask_10 : decode cX12_ask 10 = .ok (.istore_n 3, 1) := by decide +kernel
theorem dX12_ask_11 : decode cX12_ask 11 = .ok (.iload_n 3, 1) := by decide +kernel
theorem dX12_ask_12 : decode cX12_ask 12 = .ok (.ldc 126, 2) := by decide +kernel
theorem dX12_ask_14 : decode cX12_ask 14 = .ok (.if_icmp .eq 13, 3) := by decide +kernel
theorem dX12_ask_17 : decode cX12_ask 17 = .ok (.iload_n 2, 1) := by decide +kernel
theorem dX12_ask_18 : decode cX12_ask 18 = .ok (.i2l, 1) := by decide +kernel
theorem dX12_ask_19 : decode cX12_ask 19 = .ok (.lconst 0, 1) := by decide +kernel
theorem dX12_ask_20 : decode cX12_ask 20 = .ok (.lconst 1, 1) := by decide +kernel
theorem dX12_ask_21 : decode cX12_ask 21 = .ok (.invokestatic 111, 3) := by decide +kernel
theorem dX12_ask_24 : decode cX12_ask 24 = .ok (.ifCond .ne 6, 3) := by decide +kernel
theorem dX12_ask_27 : decode cX12_ask 27 = .ok (.ldc 121, 2) := by decide +kernel
theorem dX12_ask_29 : decode cX12_ask 29 = .ok (.ireturn, 1) := by decide +kernel
theorem dX12_ask_30 : decode cX12_ask 30 = .ok (.aload_n 0, 1) := by decide +kernel
theorem dX12_ask_31 : decode cX12_ask 31 = .ok (.iconst 0, 1) := by decide +kernel
theorem dX12_ask_32 : decode cX12_ask 32 = .ok (.putfield 352, 3) := by decide +kernel
theorem dX12_ask_35 : decode cX12_ask 35 = .ok (.aload_n 0, 1) := by decide +kernel
theorem dX12_ask_36 : decode cX12_ask 36 = .ok (.iload_n 3, 1) := by decide +kernel
theorem dX12_ask_37 : decode cX12_ask 37 = .ok (.invokevirtual 346, 3) := by decide +kernel
theorem dX12_ask_40 : decode cX12_ask 40 = .ok (.istore 4, 2) := by decide +kernel
theorem dX12_ask_42 : decode cX12_ask 42 = .ok (.iload_n 2, 1) := by decide +kernel
theorem dX12_ask_43 : decode cX12_ask 43 = .ok (.ifCond .ne 13, 3) := by decide +kernel
theorem dX12_ask_46 : decode cX12_ask 46 = .ok (.aload_n 0, 1) := by decide +kernel
theorem dX12_ask_47 : decode cX12_ask 47 = .ok (.iload_n 3, 1) := by decide +kernel
theorem dX12_ask_48 : decode cX12_ask 48 = .ok (.iload 4, 2) := by decide +kernel
theorem dX12_ask_50 : decode cX12_ask 50 = .ok (.invokevirtual 364, 3) := by decide +kernel
theorem dX12_ask_53 : decode cX12_ask 53 = .ok (.goto 10, 3) := by decide +kernel
theorem dX12_ask_56 : decode cX12_ask 56 = .ok (.aload_n 0, 1) := by decide +kernel
theorem dX12_ask_57 : decode cX12_ask 57 = .ok (.iload_n 3, 1) := by decide +kernel
theorem dX12_ask_58 : decode cX12_ask 58 = .ok (.iload 4, 2) := by decide +kernel
theorem dX12_ask_60 : decode cX12_ask 60 = .ok (.invokevirtual 361, 3) := by decide +kernel
theorem dX12_ask_63 : decode cX12_ask 63 = .ok (.ireturn, 1) := by decide +kernel
theorem kd_X12_ask : aKd m_X12_ask 2 := ⟨wd_49_13, wd_1_5, ⟨by decide +kernel, by decide +kernel, by decide +kernel⟩⟩
set_option maxRecDepth 100000 in
set_option maxHeartbeats 4000000 in
theorem l_X12_ask_27   (σ : aSt) (o : Int32 × aSt) (h : f_X12_ask_27   σ = some o) : AW true m_X12_ask 27 [] [] σ 0 0 (some (.int o.1)) o.2 := by
  unfold f_X12_ask_27 at h
  refine w_ldc (v := (-1000001)) dX12_ask_27 wd_10_21 ?_
  obtain rfl := Option.some.inj h
  exact w_ireturn dX12_ask_29 rfl (Nat.le_of_ble_eq_true rfl) (Nat.le_of_ble_eq_true rfl)
set_option maxRecDepth 100000 in
set_option maxHeartbeats 4000000 in
theorem l_X12_ask_63  (t0 : Int32) (σ : aSt) (o : Int32 × aSt) (h : f_X12_ask_63  t0 σ = some o) : AW true m_X12_ask 63 [] [.int (t0)] σ 0 0 (some (.int o.1)) o.2 := by
  unfold f_X12_ask_63 at h
  obtain rfl := Option.some.inj h
  exact w_ireturn dX12_ask_63 rfl (Nat.le_of_ble_eq_true rfl) (Nat.le_of_ble_eq_true rfl)
set_option maxRecDepth 100000 in
set_option maxHeartbeats 4000000 in
theorem c_X12_ask (p1 : Int32) (p2 : Int32) (σ : aSt) (o : Int32 × aSt) (h : f_X12_ask p1 p2 σ = some o) : AM true m_X12_ask [va_rf (some (57)), .int (p1), .int (p2)] σ (some (.int o.1)) o.2 := by
  refine AM_of2 (lv := [(0, va_rf (some (57))), (1, Value.int (p1)), (2, Value.int (p2))]) (by decide +kernel) rfl (Nat.le_of_ble_eq_true rfl) ?_
  unfold f_X12_ask at h
  refine w_aload_n 0 ((some (57))) dX12_ask_0 rfl rfl ?_
  refine w_iconst (v := 0) dX12_ask_1 (by decide) ?_
  refine w_putI dX12_ask_2 fl_RX12_102 (Or.inl rfl) rfl ⟨rfl, Or.inr ⟨rfl, by decide⟩⟩ ?_
  refine w_aload_n 0 ((some (57))) dX12_ask_5 rfl rfl ?_
  refine w_iload_n 1 dX12_ask_6 rfl rfl ?_
  replace h := e_bind h; obtain ⟨q1, e2, h⟩ := h
  refine w_callV1 (M2 := m_X12_numberOf) (av := [.int (p1)]) (ci := 12) (c_X12_numberOf _ _ _ e2) dX12_ask_7 kd_X12_numberOf wd_15_15 wd_15_16 wd_15_17 rfl rfl ⟨rfl, Or.inr ⟨rfl, by decide⟩⟩ rfl ⟨Nat.le_of_ble_eq_true rfl, Nat.le_of_ble_eq_true rfl, Nat.le_of_ble_eq_true rfl, Nat.le_of_ble_eq_true rfl⟩ (Nat.le_of_ble_eq_true rfl) ?_
  refine w_istore_n dX12_ask_10 rfl (by decide) rfl ?_
  refine w_iload_n 0 dX12_ask_11 rfl rfl ?_
  refine w_ldc (v := (-1000000)) dX12_ask_12 wd_15_11 ?_
  refine w_icmp_eq 27 dX12_ask_14 (by decide) (fun c3 => ?_) (fun c3 => ?_)
  · replace h := e_t c3 h
    refine w_sub [] rfl ?_
    exact l_X12_ask_27 _ _ h
  · replace h := e_f c3 h
    refine w_iload_n 3 dX12_ask_17 rfl rfl ?_
    refine w_i2l dX12_ask_18 ?_
    refine w_lconst (v := 0) dX12_ask_19 (by decide) ?_
    refine w_lconst (v := 1) dX12_ask_20 (by decide) ?_
    replace h := e_bind h; obtain ⟨q4, e5, h⟩ := h
    refine w_callS1 (M2 := m_X12_in) (av := [.long (p2.toInt64), .long (0), .long (1)]) (c_X12_in _ _ _ _ _ e5) dX12_ask_21 kd_X12_in wd_11_3 wd_11_4 rfl rfl ⟨Nat.le_of_ble_eq_true rfl, Nat.le_of_ble_eq_true rfl, Nat.le_of_ble_eq_true rfl, Nat.le_of_ble_eq_true rfl⟩ (Nat.le_of_ble_eq_true rfl) ?_
    refine w_if_ne 30 dX12_ask_24 (by decide) (fun c6 => ?_) (fun c6 => ?_)
    · replace h := e_f c6 h
      refine w_aload_n 1 ((some (57))) dX12_ask_30 rfl rfl ?_
      refine w_iconst (v := 0) dX12_ask_31 (by decide) ?_
      refine w_putI dX12_ask_32 fl_RX12_352 (Or.inl rfl) rfl ⟨rfl, Or.inr ⟨rfl, by decide⟩⟩ ?_
      refine w_aload_n 1 ((some (57))) dX12_ask_35 rfl rfl ?_
      refine w_iload_n 0 dX12_ask_36 rfl rfl ?_
      replace h := e_bind h; obtain ⟨q7, e8, h⟩ := h
      refine w_callV1 (M2 := m_X12_kindOf) (av := [.int (q1.1)]) (ci := 12) (c_X12_kindOf _ _ _ e8) dX12_ask_37 kd_X12_kindOf wd_48_4 wd_48_5 wd_48_6 rfl rfl ⟨rfl, Or.inr ⟨rfl, by decide⟩⟩ rfl ⟨Nat.le_of_ble_eq_true rfl, Nat.le_of_ble_eq_true rfl, Nat.le_of_ble_eq_true rfl, Nat.le_of_ble_eq_true rfl⟩ (Nat.le_of_ble_eq_true rfl) ?_
      refine w_istore dX12_ask_40 (by decide) rfl ?_
      refine w_iload_n 4 dX12_ask_42 rfl rfl ?_
      refine w_if_ne 56 dX12_ask_43 (by decide) (fun c9 => ?_) (fun c9 => ?_)
      · replace h := e_f c9 h
        refine w_aload_n 2 ((some (57))) dX12_ask_56 rfl rfl ?_
        refine w_iload_n 1 dX12_ask_57 rfl rfl ?_
        refine w_iload 0 dX12_ask_58 rfl ?_
        replace h := e_bind h; obtain ⟨q10, e11, h⟩ := h
        refine w_callV1 (M2 := m_X12_markOf) (av := [.int (q1.1), .int (q7.1)]) (ci := 12) (c_X12_markOf _ _ _ _ e11) dX12_ask_60 kd_X12_markOf wd_50_3 wd_50_4 wd_50_5 rfl rfl ⟨rfl, Or.inr ⟨rfl, by decide⟩⟩ rfl ⟨Nat.le_of_ble_eq_true rfl, Nat.le_of_ble_eq_true rfl, Nat.le_of_ble_eq_true rfl, Nat.le_of_ble_eq_true rfl⟩ (Nat.le_of_ble_eq_true rfl) ?_
        refine w_sub [] rfl ?_
        exact l_X12_ask_63 _ _ _ h
      · replace h := e_t c9 h
        refine w_aload_n 2 ((some (57))) dX12_ask_46 rfl rfl ?_
        refine w_iload_n 1 dX12_ask_47 rfl rfl ?_
        refine w_iload 0 dX12_ask_48 rfl ?_
        replace h := e_bind h; obtain ⟨q12, e13, h⟩ := h
        refine w_callV1 (M2 := m_X12_worthOf) (av := [.int (q1.1), .int (q7.1)]) (ci := 12) (c_X12_worthOf _ _ _ _ e13) dX12_ask_50 kd_X12_worthOf wd_49_15 wd_49_16 wd_49_17 rfl rfl ⟨rfl, Or.inr ⟨rfl, by decide⟩⟩ rfl ⟨Nat.le_of_ble_eq_true rfl, Nat.le_of_ble_eq_true rfl, Nat.le_of_ble_eq_true rfl, Nat.le_of_ble_eq_true rfl⟩ (Nat.le_of_ble_eq_true rfl) ?_
        refine w_goto 63 dX12_ask_53 (by decide) ?_
        refine w_sub [] rfl ?_
        exact l_X12_ask_63 _ _ _ h
    · replace h := e_t c6 h
      refine w_sub [] rfl ?_
      exact l_X12_ask_27 _ _ h
theorem dX12_trace_0 : decode cX12_trace 0 = .ok (.aload_n 0, 1) := by decide +kernel
theorem dX12_trace_1 : decode cX12_trace 1 = .ok (.iconst 0, 1) := by decide +kernel
theorem dX12_trace_2 : decode cX12_trace 2 = .ok (.putfield 102, 3) := by decide +kernel
theorem dX12_trace_5 : decode cX12_trace 5 = .ok (.iload_n 1, 1) := by decide +kernel
theorem dX12_trace_6 : decode cX12_trace 6 = .ok (.i2l, 1) := by decide +kernel
theorem dX12_trace_7 : decode cX12_trace 7 = .ok (.lconst 0, 1) := by decide +kernel
theorem dX12_trace_8 : decode cX12_trace 8 = .ok (.aload_n 0, 1) := by decide +kernel
theorem dX12_trace_9 : decode cX12_trace 9 = .ok (.getfield 352, 3) := by decide +kernel
theorem dX12_trace_12 : decode cX12_trace 12 = .ok (.iconst 1, 1) := by decide +kernel
theorem dX12_trace_13 : decode cX12_trace 13 = .ok (.isub, 1) := by decide +kernel
theorem dX12_trace_14 : decode cX12_trace 14 = .ok (.i2l, 1) := by decide +kernel
theorem dX12_trace_15 : decode cX12_trace 15 = .ok (.invokestatic 111, 3) := by decide +kernel
theorem dX12_trace_18 : decode cX12_trace 18 = .ok (.ifCond .eq 12, 3) := by decide +kernel
theorem dX12_trace_21 : decode cX12_trace 21 = .ok (.aload_n 0, 1) := by decide +kernel
theorem dX12_trace_22 : decode cX12_trace 22 = .ok (.getfield 99, 3) := by decide +kernel
theorem dX12_trace_25 : decode cX12_trace 25 = .ok (.iload_n 1, 1) := by decide +kernel
theorem dX12_trace_26 : decode cX12_trace 26 = .ok (.iaload, 1) := by decide +kernel
theorem dX12_trace_27 : decode cX12_trace 27 = .ok (.goto 5, 3) := by decide +kernel
theorem dX12_trace_30 : decode cX12_trace 30 = .ok (.ldc 126, 2) := by decide +kernel
theorem dX12_trace_32 : decode cX12_trace 32 = .ok (.ireturn, 1) := by decide +kernel
theorem kd_X12_trace : aKd m_X12_trace 1 := ⟨wd_50_16, wd_1_5, ⟨by decide +kernel, by decide +kernel, by decide +kernel⟩⟩
set_option maxRecDepth 100000 in
set_option maxHeartbeats 4000000 in
theorem l_X12_trace_32  (t0 : Int32) (σ : aSt) (o : Int32 × aSt) (h : f_X12_trace_32  t0 σ = some o) : AW true m_X12_trace 32 [] [.int (t0)] σ 0 0 (some (.int o.1)) o.2 := by
  unfold f_X12_trace_32 at h
  obtain rfl := Option.some.inj h
  exact w_ireturn dX12_trace_32 rfl (Nat.le_of_ble_eq_true rfl) (Nat.le_of_ble_eq_true rfl)
set_option maxRecDepth 100000 in
set_option maxHeartbeats 4000000 in
theorem c_X12_trace (p1 : Int32) (σ : aSt) (o : Int32 × aSt) (h : f_X12_trace p1 σ = some o) : AM true m_X12_trace [va_rf (some (57)), .int (p1)] σ (some (.int o.1)) o.2 := by
  refine AM_of2 (lv := [(0, va_rf (some (57))), (1, Value.int (p1))]) (by decide +kernel) rfl (Nat.le_of_ble_eq_true rfl) ?_
  unfold f_X12_trace at h
  refine w_aload_n 0 ((some (57))) dX12_trace_0 rfl rfl ?_
  refine w_iconst (v := 0) dX12_trace_1 (by decide) ?_
  refine w_putI dX12_trace_2 fl_RX12_102 (Or.inl rfl) rfl ⟨rfl, Or.inr ⟨rfl, by decide⟩⟩ ?_
  refine w_iload_n 1 dX12_trace_5 rfl rfl ?_
  refine w_i2l dX12_trace_6 ?_
  refine w_lconst (v := 0) dX12_trace_7 (by decide) ?_
  refine w_aload_n 0 ((some (57))) dX12_trace_8 rfl rfl ?_
  refine w_get dX12_trace_9 fl_RX12_352 ⟨rfl, Or.inr ⟨rfl, by decide⟩⟩ (aFv_i rfl) ?_
  refine w_iconst (v := 1) dX12_trace_12 (by decide) ?_
  refine w_isub dX12_trace_13 ?_
  refine w_i2l dX12_trace_14 ?_
  replace h := e_bind h; obtain ⟨q1, e2, h⟩ := h
  refine w_callS1 (M2 := m_X12_in) (av := [.long (p1.toInt64), .long (0), .long (((gI (sI σ 57 0 (0)) 57 46) - 1).toInt64)]) (c_X12_in _ _ _ _ _ e2) dX12_trace_15 kd_X12_in wd_11_3 wd_11_4 rfl rfl ⟨Nat.le_of_ble_eq_true rfl, Nat.le_of_ble_eq_true rfl, Nat.le_of_ble_eq_true rfl, Nat.le_of_ble_eq_true rfl⟩ (Nat.le_of_ble_eq_true rfl) ?_
  refine w_if_eq 30 dX12_trace_18 (by decide) (fun c3 => ?_) (fun c3 => ?_)
  · replace h := e_t c3 h
    refine w_ldc (v := (-1000000)) dX12_trace_30 wd_15_11 ?_
    refine w_sub [] rfl ?_
    exact l_X12_trace_32 _ _ _ h
  · replace h := e_f c3 h
    refine w_aload_n 0 ((some (57))) dX12_trace_21 rfl rfl ?_
    refine w_get (v := va_rf (some 83)) dX12_trace_22 fl_RX12_99 ⟨rfl, Or.inr ⟨rfl, by decide⟩⟩ (aFv_k rfl) ?_
    refine w_iload_n 1 dX12_trace_25 rfl rfl ?_
    replace h := e_grd h; obtain ⟨b4, h⟩ := h
    refine w_iaload dX12_trace_26 ⟨rfl, Or.inr ⟨rfl, by decide⟩⟩ b4 ?_
    refine w_goto 32 dX12_trace_27 (by decide) ?_
    refine w_sub [] rfl ?_
    exact l_X12_trace_32 _ _ _ h
theorem dX12_count_0 : decode cX12_count 0 = .ok (.aload_n 0, 1) := by decide +kernel
theorem dX12_count_1 : decode cX12_count 1 = .ok (.iconst 0, 1) := by decide +kernel
theorem dX12_count_2 : decode cX12_count 2 = .ok (.putfield 102, 3) := by decide +kernel
theorem dX12_count_5 : decode cX12_count 5 = .ok (.iconst 0, 1) := by decide +kernel
theorem dX12_count_6 : decode cX12_count 6 = .ok (.istore_n 2, 1) := by decide +kernel
theorem dX12_count_7 : decode cX12_count 7 = .ok (.iload_n 1, 1) := by decide +kernel
theorem dX12_count_8 : decode cX12_count 8 = .ok (.tableswitch 173 0 7 #[48, 81, 86, 91, 91, 151, 159, 168], 48) := by decide +kernel
theorem dX12_count_56 : decode cX12_count 56 = .ok (.iconst 0, 1) := by decide +kernel
theorem dX12_count_57 : decode cX12_count 57 = .ok (.istore_n 3, 1) := by decide +kernel
theorem dX12_count_58 : decode cX12_count 58 = .ok (.iload_n 3, 1) := by decide +kernel
theorem dX12_count_59 : decode cX12_count 59 = .ok (.bipush 8, 2) := by decide +kernel
theorem dX12_count_61 : decode cX12_count 61 = .ok (.if_icmp .ge 26, 3) := by decide +kernel
theorem dX12_count_64 : decode cX12_count 64 = .ok (.iload_n 2, 1) := by decide +kernel
theorem dX12_count_65 : decode cX12_count 65 = .ok (.aload_n 0, 1) := by decide +kernel
theorem dX12_count_66 : decode cX12_count 66 = .ok (.getfield 7, 3) := by decide +kernel
theorem dX12_count_69 : decode cX12_count 69 = .ok (.iload_n 3, 1) := by decide +kernel
theorem dX12_count_70 : decode cX12_count 70 = .ok (.iaload, 1) := by decide +kernel
theorem dX12_count_71 : decode cX12_count 71 = .ok (.ifCond .lt 7, 3) := by decide +kernel
theorem dX12_count_74 : decode cX12_count 74 = .ok (.iconst 1, 1) := by decide +kernel
theorem dX12_count_75 : decode cX12_count 75 = .ok (.goto 4, 3) := by decide +kernel
theorem dX12_count_78 : decode cX12_count 78 = .ok (.iconst 0, 1) := by decide +kernel
theorem dX12_count_79 : decode cX12_count 79 = .ok (.iadd, 1) := by decide +kernel
theorem dX12_count_80 : decode cX12_count 80 = .ok (.istore_n 2, 1) := by decide +kernel
theorem dX12_count_81 : decode cX12_count 81 = .ok (.iinc 3 1, 3) := by decide +kernel
theorem dX12_count_84 : decode cX12_count 84 = .ok (.goto (-26), 3) := by decide +kernel
theorem dX12_count_87 : decode cX12_count 87 = .ok (.iload_n 2, 1) := by decide +kernel
theorem dX12_count_88 : decode cX12_count 88 = .ok (.ireturn, 1) := by decide +kernel
theorem dX12_count_89 : decode cX12_count 89 = .ok (.aload_n 0, 1) := by decide +kernel
theorem dX12_count_90 : decode cX12_count 90 = .ok (.getfield 127, 3) := by decide +kernel
theorem dX12_count_93 : decode cX12_count 93 = .ok (.ireturn, 1) := by decide +kernel
theorem dX12_count_94 : decode cX12_count 94 = .ok (.aload_n 0, 1) := by decide +kernel
theorem dX12_count_95 : decode cX12_count 95 = .ok (.getfield 292, 3) := by decide +kernel
theorem dX12_count_98 : decode cX12_count 98 = .ok (.ireturn, 1) := by decide +kernel
theorem dX12_count_99 : decode cX12_count 99 = .ok (.iconst 0, 1) := by decide +kernel
theorem dX12_count_100 : decode cX12_count 100 = .ok (.istore_n 3, 1) := by decide +kernel
theorem dX12_count_101 : decode cX12_count 101 = .ok (.iload_n 3, 1) := by decide +kernel
theorem dX12_count_102 : decode cX12_count 102 = .ok (.aload_n 0, 1) := by decide +kernel
theorem dX12_count_103 : decode cX12_count 103 = .ok (.getfield 127, 3) := by decide +kernel
theorem dX12_count_106 : decode cX12_count 106 = .ok (.if_icmp .ge 51, 3) := by decide +kernel
theorem dX12_count_109 : decode cX12_count 109 = .ok (.iload_n 2, 1) := by decide +kernel
theorem dX12_count_110 : decode cX12_count 110 = .ok (.iload_n 1, 1) := by decide +kernel
theorem dX12_count_111 : decode cX12_count 111 = .ok (.iconst 3, 1) := by decide +kernel
theorem dX12_count_112 : decode cX12_count 112 = .ok (.if_icmp .ne 22, 3) := by decide +kernel
theorem dX12_count_115 : decode cX12_count 115 = .ok (.aload_n 0, 1) := by decide +kernel
theorem dX12_count_116 : decode cX12_count 116 = .ok (.getfield 37, 3) := by decide +kernel
theorem dX12_count_119 : decode cX12_count 119 = .ok (.iload_n 3, 1) := by decide +kernel
theorem dX12_count_120 : decode cX12_count 120 = .ok (.iaload, 1) := by decide +kernel
theorem dX12_count_121 : decode cX12_count 121 = .ok (.ldc 126, 2) := by decide +kernel
theorem dX12_count_123 : decode cX12_count 123 = .ok (.if_icmp .ne 7, 3) := by decide +kernel
theorem dX12_count_126 : decode cX12_count 126 = .ok (.iconst 0, 1) := by decide +kernel
theorem dX12_count_127 : decode cX12_count 127 = .ok (.goto 22, 3) := by decide +kernel
theorem dX12_count_130 : decode cX12_count 130 = .ok (.iconst 1, 1) := by decide +kernel
theorem dX12_count_131 : decode cX12_count 131 = .ok (.goto 18, 3) := by decide +kernel
theorem dX12_count_134 : decode cX12_count 134 = .ok (.aload_n 0, 1) := by decide +kernel
theorem dX12_count_135 : decode cX12_count 135 = .ok (.getfield 37, 3) := by decide +kernel
theorem dX12_count_138 : decode cX12_count 138 = .ok (.iload_n 3, 1) := by decide +kernel
theorem dX12_count_139 : decode cX12_count 139 = .ok (.iaload, 1) := by decide +kernel
theorem dX12_count_140 : decode cX12_count 140 = .ok (.iconst 1, 1) := by decide +kernel
theorem dX12_count_141 : decode cX12_count 141 = .ok (.if_icmp .ne 7, 3) := by decide +kernel
theorem dX12_count_144 : decode cX12_count 144 = .ok (.iconst 1, 1) := by decide +kernel
theorem dX12_count_145 : decode cX12_count 145 = .ok (.goto 4, 3) := by decide +kernel
theorem dX12_count_148 : decode cX12_count 148 = .ok (.iconst 0, 1) := by decide +kernel
theorem dX12_count_149 : decode cX12_count 149 = .ok (.iadd, 1) := by decide +kernel
theorem dX12_count_150 : decode cX12_count 150 = .ok (.istore_n 2, 1) := by decide +kernel
theorem dX12_count_151 : decode cX12_count 151 = .ok (.iinc 3 1, 3) := by decide +kernel
theorem dX12_count_154 : decode cX12_count 154 = .ok (.goto (-53), 3) := by decide +kernel
theorem dX12_count_157 : decode cX12_count 157 = .ok (.iload_n 2, 1) := by decide +kernel
theorem dX12_count_158 : decode cX12_count 158 = .ok (.ireturn, 1) := by decide +kernel
theorem dX12_count_159 : decode cX12_count 159 = .ok (.aload_n 0, 1) := by decide +kernel
theorem dX12_count_160 : decode cX12_count 160 = .ok (.getfield 155, 3) := by decide +kernel
theorem dX12_count_163 : decode cX12_count 163 = .ok (.invokestatic 166, 3) := by decide +kernel
theorem dX12_count_166 : decode cX12_count 166 = .ok (.ireturn, 1) := by decide +kernel
theorem dX12_count_167 : decode cX12_count 167 = .ok (.aload_n 0, 1) := by decide +kernel
theorem dX12_count_168 : decode cX12_count 168 = .ok (.invokevirtual 317, 3) := by decide +kernel
theorem dX12_count_171 : decode cX12_count 171 = .ok (.aload_n 0, 1) := by decide +kernel
theorem dX12_count_172 : decode cX12_count 172 = .ok (.getfield 314, 3) := by decide +kernel
theorem dX12_count_175 : decode cX12_count 175 = .ok (.ireturn, 1) := by decide +kernel
theorem dX12_count_176 : decode cX12_count 176 = .ok (.aload_n 0, 1) := by decide +kernel
theorem dX12_count_177 : decode cX12_count 177 = .ok (.getfield 183, 3) := by decide +kernel
theorem dX12_count_180 : decode cX12_count 180 = .ok (.ireturn, 1) := by decide +kernel
theorem dX12_count_181 : decode cX12_count 181 = .ok (.ldc 121, 2) := by decide +kernel
theorem dX12_count_183 : decode cX12_count 183 = .ok (.ireturn, 1) := by decide +kernel
theorem kd_X12_count : aKd m_X12_count 1 := ⟨wd_51_11, wd_1_5, ⟨by decide +kernel, by decide +kernel, by decide +kernel⟩⟩
set_option maxRecDepth 100000 in
set_option maxHeartbeats 4000000 in
theorem l_X12_count_79 (rec58 : Int32 → Int32 → aSt → Option (Int32 × aSt)) (hrec58 : ∀ (x2 : Int32) (x3 : Int32) (σ : aSt) (o : Int32 × aSt), rec58 x2 x3 σ = some o → AW true m_X12_count 58 [(0, va_rf (some (57))), (2, Value.int (x2)), (3, Value.int (x3))] [] σ 0 0 (some (.int o.1)) o.2) (x3 : Int32) (t0 : Int32) (t1 : Int32) (σ : aSt) (o : Int32 × aSt) (h : f_X12_count_79 rec58 x3 t0 t1 σ = some o) : AW true m_X12_count 79 [(0, va_rf (some (57))), (3, Value.int (x3))] [.int (t1), .int (t0)] σ 0 0 (some (.int o.1)) o.2 := by
  unfold f_X12_count_79 at h
  refine w_iadd dX12_count_79 ?_
  refine w_istore_n dX12_count_80 rfl (by decide) rfl ?_
  refine w_iinc (q := 2) (v := x3 + 1) dX12_count_81 rfl rfl (by decide) rfl ?_
  refine w_goto 58 dX12_count_84 (by decide) ?_
  refine w_sub [2, 1, 0] rfl ?_
  exact hrec58 _ _ _ _ h
set_option maxRecDepth 100000 in
set_option maxHeartbeats 4000000 in
theorem l_X12_count_58_b (rec58 : Int32 → Int32 → aSt → Option (Int32 × aSt)) (hrec58 : ∀ (x2 : Int32) (x3 : Int32) (σ : aSt) (o : Int32 × aSt), rec58 x2 x3 σ = some o → AW true m_X12_count 58 [(0, va_rf (some (57))), (2, Value.int (x2)), (3, Value.int (x3))] [] σ 0 0 (some (.int o.1)) o.2) (x2 : Int32) (x3 : Int32) (σ : aSt) (o : Int32 × aSt) (h : f_X12_count_58_b rec58 x2 x3 σ = some o) : AW true m_X12_count 58 [(0, va_rf (some (57))), (2, Value.int (x2)), (3, Value.int (x3))] [] σ 0 0 (some (.int o.1)) o.2 := by
  unfold f_X12_count_58_b at h
  refine w_iload_n 2 dX12_count_58 rfl rfl ?_
  refine w_bipush (v := 8) dX12_count_59 (by decide) ?_
  refine w_icmp_ge 87 dX12_count_61 (by decide) (fun c19 => ?_) (fun c19 => ?_)
  · replace h := e_t c19 h
    refine w_iload_n 1 dX12_count_87 rfl rfl ?_
    obtain rfl := Option.some.inj h
    exact w_ireturn dX12_count_88 rfl (Nat.le_of_ble_eq_true rfl) (Nat.le_of_ble_eq_true rfl)
  · replace h := e_f c19 h
    refine w_iload_n 1 dX12_count_64 rfl rfl ?_
    refine w_aload_n 0 ((some (57))) dX12_count_65 rfl rfl ?_
    refine w_get (v := va_rf (some 58)) dX12_count_66 fl_RX12_7 ⟨rfl, Or.inr ⟨rfl, by decide⟩⟩ (aFv_k rfl) ?_
    refine w_iload_n 2 dX12_count_69 rfl rfl ?_
    replace h := e_grd h; obtain ⟨b20, h⟩ := h
    refine w_iaload dX12_count_70 ⟨rfl, Or.inr ⟨rfl, by decide⟩⟩ b20 ?_
    refine w_if_lt 78 dX12_count_71 (by decide) (fun c21 => ?_) (fun c21 => ?_)
    · replace h := e_t c21 h
      refine w_iconst (v := 0) dX12_count_78 (by decide) ?_
      refine w_sub [0, 2] rfl ?_
      exact l_X12_count_79 rec58 hrec58 _ _ _ _ _ h
    · replace h := e_f c21 h
      refine w_iconst (v := 1) dX12_count_74 (by decide) ?_
      refine w_goto 79 dX12_count_75 (by decide) ?_
      refine w_sub [0, 2] rfl ?_
      exact l_X12_count_79 rec58 hrec58 _ _ _ _ _ h
theorem l_X12_count_58  : ∀ (n : Nat) (x2 : Int32) (x3 : Int32) (σ : aSt) (o : Int32 × aSt), f_X12_count_58  n x2 x3 σ = some o → AW true m_X12_count 58 [(0, va_rf (some (57))), (2, Value.int (x2)), (3, Value.int (x3))] [] σ 0 0 (some (.int o.1)) o.2
  | 0 => fun x2 x3 σ o h => by cases h
  | n + 1 => fun x2 x3 σ o h => l_X12_count_58_b (f_X12_count_58  n) (l_X12_count_58  n) x2 x3 σ o h
set_option maxRecDepth 100000 in
set_option maxHeartbeats 4000000 in
theorem l_X12_count_149 (rec101 : Int32 → Int32 → Int32 → aSt → Option (Int32 × aSt)) (hrec101 : ∀ (x1 : Int32) (x2 : Int32) (x3 : Int32) (σ : aSt) (o : Int32 × aSt), rec101 x1 x2 x3 σ = some o → AW true m_X12_count 101 [(0, va_rf (some (57))), (1, Value.int (x1)), (2, Value.int (x2)), (3, Value.int (x3))] [] σ 0 0 (some (.int o.1)) o.2) (x1 : Int32) (x3 : Int32) (t0 : Int32) (t1 : Int32) (σ : aSt) (o : Int32 × aSt) (h : f_X12_count_149 rec101 x1 x3 t0 t1 σ = some o) : AW true m_X12_count 149 [(0, va_rf (some (57))), (1, Value.int (x1)), (3, Value.int (x3))] [.int (t1), .int (t0)] σ 0 0 (some (.int o.1)) o.2 := by
  unfold f_X12_count_149 at h
  refine w_iadd dX12_count_149 ?_
  refine w_istore_n dX12_count_150 rfl (by decide) rfl ?_
  refine w_iinc (q := 3) (v := x3 + 1) dX12_count_151 rfl rfl (by decide) rfl ?_
  refine w_goto 101 dX12_count_154 (by decide) ?_
  refine w_sub [2, 3, 1, 0] rfl ?_
  exact hrec101 _ _ _ _ _ h
set_option maxRecDepth 100000 in
set_option maxHeartbeats 4000000 in
theorem l_X12_count_101_b (rec101 : Int32 → Int32 → Int32 → aSt → Option (Int32 × aSt)) (hrec101 : ∀ (x1 : Int32) (x2 : Int32) (x3 : Int32) (σ : aSt) (o : Int32 × aSt), rec101 x1 x2 x3 σ = some o → AW true m_X12_count 101 [(0, va_rf (some (57))), (1, Value.int (x1)), (2, Value.int (x2)), (3, Value.int (x3))] [] σ 0 0 (some (.int o.1)) o.2) (x1 : Int32) (x2 : Int32) (x3 : Int32) (σ : aSt) (o : Int32 × aSt) (h : f_X12_count_101_b rec101 x1 x2 x3 σ = some o) : AW true m_X12_count 101 [(0, va_rf (some (57))), (1, Value.int (x1)), (2, Value.int (x2)), (3, Value.int (x3))] [] σ 0 0 (some (.int o.1)) o.2 := by
  unfold f_X12_count_101_b at h
  refine w_iload_n 3 dX12_count_101 rfl rfl ?_
  refine w_aload_n 0 ((some (57))) dX12_count_102 rfl rfl ?_
  refine w_get dX12_count_103 fl_RX12_127 ⟨rfl, Or.inr ⟨rfl, by decide⟩⟩ (aFv_i rfl) ?_
  refine w_icmp_ge 157 dX12_count_106 (by decide) (fun c13 => ?_) (fun c13 => ?_)
  · replace h := e_t c13 h
    refine w_iload_n 2 dX12_count_157 rfl rfl ?_
    obtain rfl := Option.some.inj h
    exact w_ireturn dX12_count_158 rfl (Nat.le_of_ble_eq_true rfl) (Nat.le_of_ble_eq_true rfl)
  · replace h := e_f c13 h
    refine w_iload_n 2 dX12_count_109 rfl rfl ?_
    refine w_iload_n 1 dX12_count_110 rfl rfl ?_
    refine w_iconst (v := 3) dX12_count_111 (by decide) ?_
    refine w_icmp_ne 134 dX12_count_112 (by decide) (fun c14 => ?_) (fun c14 => ?_)
    · replace h := e_f c14 h
      refine w_aload_n 0 ((some (57))) dX12_count_134 rfl rfl ?_
      refine w_get (v := va_rf (some 67)) dX12_count_135 fl_RX12_37 ⟨rfl, Or.inr ⟨rfl, by decide⟩⟩ (aFv_k rfl) ?_
      refine w_iload_n 3 dX12_count_138 rfl rfl ?_
      replace h := e_grd h; obtain ⟨b15, h⟩ := h
      refine w_iaload dX12_count_139 ⟨rfl, Or.inr ⟨rfl, by decide⟩⟩ b15 ?_
      refine w_iconst (v := 1) dX12_count_140 (by decide) ?_
      refine w_icmp_ne 148 dX12_count_141 (by decide) (fun c16 => ?_) (fun c16 => ?_)
      · replace h := e_f c16 h
        refine w_iconst (v := 0) dX12_count_148 (by decide) ?_
        refine w_sub [0, 1, 3] rfl ?_
        exact l_X12_count_149 rec101 hrec101 _ _ _ _ _ _ h
      · replace h := e_t c16 h
        refine w_iconst (v := 1) dX12_count_144 (by decide) ?_
        refine w_goto 149 dX12_count_145 (by decide) ?_
        refine w_sub [0, 1, 3] rfl ?_
        exact l_X12_count_149 rec101 hrec101 _ _ _ _ _ _ h
    · replace h := e_t c14 h
      refine w_aload_n 0 ((some (57))) dX12_count_115 rfl rfl ?_
      refine w_get (v := va_rf (some 67)) dX12_count_116 fl_RX12_37 ⟨rfl, Or.inr ⟨rfl, by decide⟩⟩ (aFv_k rfl) ?_
      refine w_iload_n 3 dX12_count_119 rfl rfl ?_
      replace h := e_grd h; obtain ⟨b17, h⟩ := h
      refine w_iaload dX12_count_120 ⟨rfl, Or.inr ⟨rfl, by decide⟩⟩ b17 ?_
      refine w_ldc (v := (-1000000)) dX12_count_121 wd_15_11 ?_
      refine w_icmp_ne 130 dX12_count_123 (by decide) (fun c18 => ?_) (fun c18 => ?_)
      · replace h := e_f c18 h
        refine w_iconst (v := 1) dX12_count_130 (by decide) ?_
        refine w_goto 149 dX12_count_131 (by decide) ?_
        refine w_sub [0, 1, 3] rfl ?_
        exact l_X12_count_149 rec101 hrec101 _ _ _ _ _ _ h
      · replace h := e_t c18 h
        refine w_iconst (v := 0) dX12_count_126 (by decide) ?_
        refine w_goto 149 dX12_count_127 (by decide) ?_
        refine w_sub [0, 1, 3] rfl ?_
        exact l_X12_count_149 rec101 hrec101 _ _ _ _ _ _ h
theorem l_X12_count_101  : ∀ (n : Nat) (x1 : Int32) (x2 : Int32) (x3 : Int32) (σ : aSt) (o : Int32 × aSt), f_X12_count_101  n x1 x2 x3 σ = some o → AW true m_X12_count 101 [(0, va_rf (some (57))), (1, Value.int (x1)), (2, Value.int (x2)), (3, Value.int (x3))] [] σ 0 0 (some (.int o.1)) o.2
  | 0 => fun x1 x2 x3 σ o h => by cases h
  | n + 1 => fun x1 x2 x3 σ o h => l_X12_count_101_b (f_X12_count_101  n) (l_X12_count_101  n) x1 x2 x3 σ o h
set_option maxRecDepth 100000 in
set_option maxHeartbeats 4000000 in
theorem c_X12_count (p1 : Int32) (σ : aSt) (o : Int32 × aSt) (h : f_X12_count p1 σ = some o) : AM true m_X12_count [va_rf (some (57)), .int (p1)] σ (some (.int o.1)) o.2 := by
  refine AM_of2 (lv := [(0, va_rf (some (57))), (1, Value.int (p1))]) (by decide +kernel) rfl (Nat.le_of_ble_eq_true rfl) ?_
  unfold f_X12_count at h
  refine w_aload_n 0 ((some (57))) dX12_count_0 rfl rfl ?_
  refine w_iconst (v := 0) dX12_count_1 (by decide) ?_
  refine w_putI dX12_count_2 fl_RX12_102 (Or.inl rfl) rfl ⟨rfl, Or.inr ⟨rfl, by decide⟩⟩ ?_
  refine w_iconst (v := 0) dX12_count_5 (by decide) ?_
  refine w_istore_n dX12_count_6 rfl (by decide) rfl ?_
  refine w_iload_n 2 dX12_count_7 rfl rfl ?_
  replace h := e_ite h; rcases h with ⟨c1, h⟩ | ⟨c1, h⟩
  · subst c1
    refine w_tabIn (off := 48) 56 dX12_count_8 (by decide) (by decide) (by decide +kernel) (by decide) ?_
    refine w_iconst (v := 0) dX12_count_56 (by decide) ?_
    refine w_istore_n dX12_count_57 rfl (by decide) rfl ?_
    refine w_sub [2, 1, 0] rfl ?_
    exact l_X12_count_58 aN _ _ _ _ h
  · replace h := e_ite h; rcases h with ⟨c2, h⟩ | ⟨c2, h⟩
    · subst c2
      refine w_tabIn (off := 81) 89 dX12_count_8 (by decide) (by decide) (by decide +kernel) (by decide) ?_
      refine w_aload_n 1 ((some (57))) dX12_count_89 rfl rfl ?_
      refine w_get dX12_count_90 fl_RX12_127 ⟨rfl, Or.inr ⟨rfl, by decide⟩⟩ (aFv_i rfl) ?_
      obtain rfl := Option.some.inj h
      exact w_ireturn dX12_count_93 rfl (Nat.le_of_ble_eq_true rfl) (Nat.le_of_ble_eq_true rfl)
    · replace h := e_ite h; rcases h with ⟨c3, h⟩ | ⟨c3, h⟩
      · subst c3
        refine w_tabIn (off := 86) 94 dX12_count_8 (by decide) (by decide) (by decide +kernel) (by decide) ?_
        refine w_aload_n 1 ((some (57))) dX12_count_94 rfl rfl ?_
        refine w_get dX12_count_95 fl_RX12_292 ⟨rfl, Or.inr ⟨rfl, by decide⟩⟩ (aFv_i rfl) ?_
        obtain rfl := Option.some.inj h
        exact w_ireturn dX12_count_98 rfl (Nat.le_of_ble_eq_true rfl) (Nat.le_of_ble_eq_true rfl)
      · replace h := e_ite h; rcases h with ⟨c4, h⟩ | ⟨c4, h⟩
        · subst c4
          refine w_tabIn (off := 91) 99 dX12_count_8 (by decide) (by decide) (by decide +kernel) (by decide) ?_
          refine w_iconst (v := 0) dX12_count_99 (by decide) ?_
          refine w_istore_n dX12_count_100 rfl (by decide) rfl ?_
          refine w_sub [2, 3, 1, 0] rfl ?_
          exact l_X12_count_101 aN _ _ _ _ _ h
        · replace h := e_ite h; rcases h with ⟨c5, h⟩ | ⟨c5, h⟩
          · subst c5
            refine w_tabIn (off := 91) 99 dX12_count_8 (by decide) (by decide) (by decide +kernel) (by decide) ?_
            refine w_iconst (v := 0) dX12_count_99 (by decide) ?_
            refine w_istore_n dX12_count_100 rfl (by decide) rfl ?_
            refine w_sub [2, 3, 1, 0] rfl ?_
            exact l_X12_count_101 aN _ _ _ _ _ h
          · replace h := e_ite h; rcases h with ⟨c6, h⟩ | ⟨c6, h⟩
            · subst c6
              refine w_tabIn (off := 151) 159 dX12_count_8 (by decide) (by decide) (by decide +kernel) (by decide) ?_
              refine w_aload_n 1 ((some (57))) dX12_count_159 rfl rfl ?_
              refine w_get dX12_count_160 fl_RX12_155 ⟨rfl, Or.inr ⟨rfl, by decide⟩⟩ (aFv_i rfl) ?_
              replace h := e_bind h; obtain ⟨q7, e8, h⟩ := h
              refine w_callS1 (M2 := m_X12_bits) (av := [.int (gI (sI σ 57 0 (0)) 57 14)]) (c_X12_bits _ _ _ e8) dX12_count_163 kd_X12_bits wd_21_6 wd_21_7 rfl rfl ⟨Nat.le_of_ble_eq_true rfl, Nat.le_of_ble_eq_true rfl, Nat.le_of_ble_eq_true rfl, Nat.le_of_ble_eq_true rfl⟩ (Nat.le_of_ble_eq_true rfl) ?_
              obtain rfl := Option.some.inj h
              exact w_ireturn dX12_count_166 rfl (Nat.le_of_ble_eq_true rfl) (Nat.le_of_ble_eq_true rfl)
            · replace h := e_ite h; rcases h with ⟨c9, h⟩ | ⟨c9, h⟩
              · subst c9
                refine w_tabIn (off := 159) 167 dX12_count_8 (by decide) (by decide) (by decide +kernel) (by decide) ?_
                refine w_aload_n 1 ((some (57))) dX12_count_167 rfl rfl ?_
                replace h := e_bind h; obtain ⟨q10, e11, h⟩ := h
                refine w_callV0 (M2 := m_X12_findQueue) (av := []) (ci := 12) (c_X12_findQueue  _ _ e11) dX12_count_168 kd_X12_findQueue wd_39_19 wd_39_20 wd_39_21 rfl rfl ⟨rfl, Or.inr ⟨rfl, by decide⟩⟩ rfl ⟨Nat.le_of_ble_eq_true rfl, Nat.le_of_ble_eq_true rfl, Nat.le_of_ble_eq_true rfl, Nat.le_of_ble_eq_true rfl⟩ (Nat.le_of_ble_eq_true rfl) ?_
                refine w_aload_n 1 ((some (57))) dX12_count_171 rfl rfl ?_
                refine w_get dX12_count_172 fl_RX12_314 ⟨rfl, Or.inr ⟨rfl, by decide⟩⟩ (aFv_i rfl) ?_
                obtain rfl := Option.some.inj h
                exact w_ireturn dX12_count_175 rfl (Nat.le_of_ble_eq_true rfl) (Nat.le_of_ble_eq_true rfl)
              · replace h := e_ite h; rcases h with ⟨c12, h⟩ | ⟨c12, h⟩
                · subst c12
                  refine w_tabIn (off := 168) 176 dX12_count_8 (by decide) (by decide) (by decide +kernel) (by decide) ?_
                  refine w_aload_n 1 ((some (57))) dX12_count_176 rfl rfl ?_
                  refine w_get dX12_count_177 fl_RX12_183 ⟨rfl, Or.inr ⟨rfl, by decide⟩⟩ (aFv_i rfl) ?_
                  obtain rfl := Option.some.inj h
                  exact w_ireturn dX12_count_180 rfl (Nat.le_of_ble_eq_true rfl) (Nat.le_of_ble_eq_true rfl)
                · refine w_tabOut 181 dX12_count_8 (by have zc1 := lv_neT (a := 0) c1 (by decide); have zc2 := lv_neT (a := 1) c2 (by decide); have zc3 := lv_neT (a := 2) c3 (by decide); have zc4 := lv_neT (a := 3) c4 (by decide); have zc5 := lv_neT (a := 4) c5 (by decide); have zc6 := lv_neT (a := 5) c6 (by decide); have zc9 := lv_neT (a := 6) c9 (by decide); have zc12 := lv_neT (a := 7) c12 (by decide); omega) (by decide) ?_
                  refine w_ldc (v := (-1000001)) dX12_count_181 wd_10_21 ?_
                  obtain rfl := Option.some.inj h
                  exact w_ireturn dX12_count_183 rfl (Nat.le_of_ble_eq_true rfl) (Nat.le_of_ble_eq_true rfl)
theorem dX12_status_0 : decode cX12_status 0 = .ok (.aload_n 0, 1) := by decide +kernel
theorem dX12_status_1 : decode cX12_status 1 = .ok (.iconst 0, 1) := by decide +kernel
theorem dX12_status_2 : decode cX12_status 2 = .ok (.putfield 102, 3) := by decide +kernel
theorem dX12_status_5 : decode cX12_status 5 = .ok (.aload_n 0, 1) := by decide +kernel
theorem dX12_status_6 : decode cX12_status 6 = .ok (.getfield 105, 3) := by decide +kernel
theorem dX12_status_9 : decode cX12_status 9 = .ok (.ireturn, 1) := by decide +kernel
theorem kd_X12_status : aKd m_X12_status 0 := ⟨wd_51_19, wd_1_5, ⟨by decide +kernel, by decide +kernel, by decide +kernel⟩⟩
set_option maxRecDepth 100000 in
set_option maxHeartbeats 4000000 in
theorem c_X12_status  (σ : aSt) (o : Int32 × aSt) (h : f_X12_status  σ = some o) : AM true m_X12_status [va_rf (some (57))] σ (some (.int o.1)) o.2 := by
  refine AM_of2 (lv := [(0, va_rf (some (57)))]) (by decide +kernel) rfl (Nat.le_of_ble_eq_true rfl) ?_
  unfold f_X12_status at h
  refine w_aload_n 0 ((some (57))) dX12_status_0 rfl rfl ?_
  refine w_iconst (v := 0) dX12_status_1 (by decide) ?_
  refine w_putI dX12_status_2 fl_RX12_102 (Or.inl rfl) rfl ⟨rfl, Or.inr ⟨rfl, by decide⟩⟩ ?_
  refine w_aload_n 0 ((some (57))) dX12_status_5 rfl rfl ?_
  refine w_get dX12_status_6 fl_RX12_105 ⟨rfl, Or.inr ⟨rfl, by decide⟩⟩ (aFv_i rfl) ?_
  obtain rfl := Option.some.inj h
  exact w_ireturn dX12_status_9 rfl (Nat.le_of_ble_eq_true rfl) (Nat.le_of_ble_eq_true rfl)
