theorem dX12_pay_0 : decode cX12_pay 0 = .ok (.aload_n 0, 1) := by decide +kernel
theorem dX12_pay_1 : decode cX12_pay 1 = .ok (.iconst 0, 1) := by decide +kernel
theorem dX12_pay_2 : decode cX12_pay 2 = .ok (.putfield 102, 3) := by decide +kernel
theorem dX12_pay_5 : decode cX12_pay 5 = .ok (.aload_n 0, 1) := by decide +kernel
theorem dX12_pay_6 : decode cX12_pay 6 = .ok (.iload_n 1, 1) := by decide +kernel
theorem dX12_pay_7 : decode cX12_pay 7 = .ok (.iload_n 2, 1) := by decide +kernel
theorem dX12_pay_8 : decode cX12_pay 8 = .ok (.iload_n 3, 1) := by decide +kernel
theorem dX12_pay_9 : decode cX12_pay 9 = .ok (.iload 4, 2) := by decide +kernel
theorem dX12_pay_11 : decode cX12_pay 11 = .ok (.iload 5, 2) := by decide +kernel
theorem dX12_pay_13 : decode cX12_pay 13 = .ok (.iload 6, 2) := by decide +kernel
theorem dX12_pay_15 : decode cX12_pay 15 = .ok (.invokevirtual 147, 3) := by decide +kernel
theorem dX12_pay_18 : decode cX12_pay 18 = .ok (.ireturn, 1) := by decide +kernel
theorem kd_X12_pay : aKd m_X12_pay 6 := ⟨wd_15_2, wd_1_5, ⟨by decide +kernel, by decide +kernel, by decide +kernel⟩⟩
set_option maxRecDepth 100000 in
set_option maxHeartbeats 4000000 in
theorem c_X12_pay (p1 : Int32) (p2 : Int32) (p3 : Int32) (p4 : Int32) (p5 : Int32) (p6 : Int32) (σ : aSt) (o : Int32 × aSt) (h : f_X12_pay p1 p2 p3 p4 p5 p6 σ = some o) : AM true m_X12_pay [va_rf (some (57)), .int (p1), .int (p2), .int (p3), .int (p4), .int (p5), .int (p6)] σ (some (.int o.1)) o.2 := by
  refine AM_of2 (lv := [(0, va_rf (some (57))), (1, Value.int (p1)), (2, Value.int (p2)), (3, Value.int (p3)), (4, Value.int (p4)), (5, Value.int (p5)), (6, Value.int (p6))]) (by decide +kernel) rfl (Nat.le_of_ble_eq_true rfl) ?_
  unfold f_X12_pay at h
  refine w_aload_n 0 ((some (57))) dX12_pay_0 rfl rfl ?_
  refine w_iconst (v := 0) dX12_pay_1 (by decide) ?_
  refine w_putI dX12_pay_2 fl_RX12_102 (Or.inl rfl) rfl ⟨rfl, Or.inr ⟨rfl, by decide⟩⟩ ?_
  refine w_aload_n 0 ((some (57))) dX12_pay_5 rfl rfl ?_
  refine w_iload_n 1 dX12_pay_6 rfl rfl ?_
  refine w_iload_n 2 dX12_pay_7 rfl rfl ?_
  refine w_iload_n 3 dX12_pay_8 rfl rfl ?_
  refine w_iload 4 dX12_pay_9 rfl ?_
  refine w_iload 5 dX12_pay_11 rfl ?_
  refine w_iload 6 dX12_pay_13 rfl ?_
  replace h := e_bind h; obtain ⟨q1, e2, h⟩ := h
  refine w_callV1 (M2 := m_X12_coming) (av := [.int (p1), .int (p2), .int (p3), .int (p4), .int (p5), .int (p6)]) (ci := 12) (c_X12_coming _ _ _ _ _ _ _ _ e2) dX12_pay_15 kd_X12_coming wd_15_3 wd_15_4 wd_15_5 rfl rfl ⟨rfl, Or.inr ⟨rfl, by decide⟩⟩ rfl ⟨Nat.le_of_ble_eq_true rfl, Nat.le_of_ble_eq_true rfl, Nat.le_of_ble_eq_true rfl, Nat.le_of_ble_eq_true rfl⟩ (Nat.le_of_ble_eq_true rfl) ?_
  obtain rfl := Option.some.inj h
  exact w_ireturn dX12_pay_18 rfl (Nat.le_of_ble_eq_true rfl) (Nat.le_of_ble_eq_true rfl)
theorem dX12_batch_0 : decode cX12_batch 0 = .ok (.aload_n 0, 1) := by decide +kernel
theorem dX12_batch_1 : decode cX12_batch 1 = .ok (.iconst 0, 1) := by decide +kernel
theorem dX12_batch_2 : decode cX12_batch 2 = .ok (.putfield 102, 3) := by decide +kernel
theorem dX12_batch_5 : decode cX12_batch 5 = .ok (.iload_n 1, 1) := by decide +kernel
theorem dX12_batch_6 : decode cX12_batch 6 = .ok (.invokestatic 115, 3) := by decide +kernel
theorem dX12_batch_9 : decode cX12_batch 9 = .ok (.ifCond .eq 15, 3) := by decide +kernel
theorem dX12_batch_12 : decode cX12_batch 12 = .ok (.iload_n 3, 1) := by decide +kernel
theorem dX12_batch_13 : decode cX12_batch 13 = .ok (.i2l, 1) := by decide +kernel
theorem dX12_batch_14 : decode cX12_batch 14 = .ok (.lconst 1, 1) := by decide +kernel
theorem dX12_batch_15 : decode cX12_batch 15 = .ok (.ldc2_w 151, 3) := by decide +kernel
theorem dX12_batch_18 : decode cX12_batch 18 = .ok (.invokestatic 111, 3) := by decide +kernel
theorem dX12_batch_21 : decode cX12_batch 21 = .ok (.ifCond .ne 6, 3) := by decide +kernel
theorem dX12_batch_24 : decode cX12_batch 24 = .ok (.ldc 121, 2) := by decide +kernel
theorem dX12_batch_26 : decode cX12_batch 26 = .ok (.ireturn, 1) := by decide +kernel
theorem dX12_batch_27 : decode cX12_batch 27 = .ok (.aload_n 0, 1) := by decide +kernel
theorem dX12_batch_28 : decode cX12_batch 28 = .ok (.iconst 0, 1) := by decide +kernel
theorem dX12_batch_29 : decode cX12_batch 29 = .ok (.putfield 105, 3) := by decide +kernel
theorem dX12_batch_32 : decode cX12_batch 32 = .ok (.aload_n 0, 1) := by decide +kernel
theorem dX12_batch_33 : decode cX12_batch 33 = .ok (.getfield 7, 3) := by decide +kernel
theorem dX12_batch_36 : decode cX12_batch 36 = .ok (.iload_n 1, 1) := by decide +kernel
theorem dX12_batch_37 : decode cX12_batch 37 = .ok (.iaload, 1) := by decide +kernel
theorem dX12_batch_38 : decode cX12_batch 38 = .ok (.ifCond .ge 9, 3) := by decide +kernel
theorem dX12_batch_41 : decode cX12_batch 41 = .ok (.aload_n 0, 1) := by decide +kernel
theorem dX12_batch_42 : decode cX12_batch 42 = .ok (.iconst 1, 1) := by decide +kernel
theorem dX12_batch_43 : decode cX12_batch 43 = .ok (.invokevirtual 122, 3) := by decide +kernel
theorem dX12_batch_46 : decode cX12_batch 46 = .ok (.ireturn, 1) := by decide +kernel
theorem dX12_batch_47 : decode cX12_batch 47 = .ok (.iload_n 2, 1) := by decide +kernel
theorem dX12_batch_48 : decode cX12_batch 48 = .ok (.ifCond .lt 22, 3) := by decide +kernel
theorem dX12_batch_51 : decode cX12_batch 51 = .ok (.iload_n 2, 1) := by decide +kernel
theorem dX12_batch_52 : decode cX12_batch 52 = .ok (.i2l, 1) := by decide +kernel
theorem dX12_batch_53 : decode cX12_batch 53 = .ok (.bipush 6, 2) := by decide +kernel
theorem dX12_batch_55 : decode cX12_batch 55 = .ok (.iload_n 3, 1) := by decide +kernel
theorem dX12_batch_56 : decode cX12_batch 56 = .ok (.imul, 1) := by decide +kernel
theorem dX12_batch_57 : decode cX12_batch 57 = .ok (.i2l, 1) := by decide +kernel
theorem dX12_batch_58 : decode cX12_batch 58 = .ok (.ladd, 1) := by decide +kernel
theorem dX12_batch_59 : decode cX12_batch 59 = .ok (.aload_n 0, 1) := by decide +kernel
theorem dX12_batch_60 : decode cX12_batch 60 = .ok (.getfield 13, 3) := by decide +kernel
theorem dX12_batch_63 : decode cX12_batch 63 = .ok (.iload_n 1, 1) := by decide +kernel
theorem dX12_batch_64 : decode cX12_batch 64 = .ok (.iaload, 1) := by decide +kernel
theorem dX12_batch_65 : decode cX12_batch 65 = .ok (.i2l, 1) := by decide +kernel
theorem dX12_batch_66 : decode cX12_batch 66 = .ok (.lcmp, 1) := by decide +kernel
theorem dX12_batch_67 : decode cX12_batch 67 = .ok (.ifCond .le 9, 3) := by decide +kernel
theorem dX12_batch_70 : decode cX12_batch 70 = .ok (.aload_n 0, 1) := by decide +kernel
theorem dX12_batch_71 : decode cX12_batch 71 = .ok (.iconst 2, 1) := by decide +kernel
theorem dX12_batch_72 : decode cX12_batch 72 = .ok (.invokevirtual 122, 3) := by decide +kernel
theorem dX12_batch_75 : decode cX12_batch 75 = .ok (.ireturn, 1) := by decide +kernel
theorem dX12_batch_76 : decode cX12_batch 76 = .ok (.iconst 0, 1) := by decide +kernel
theorem dX12_batch_77 : decode cX12_batch 77 = .ok (.istore 4, 2) := by decide +kernel
theorem dX12_batch_79 : decode cX12_batch 79 = .ok (.iconst 0, 1) := by decide +kernel
theorem dX12_batch_80 : decode cX12_batch 80 = .ok (.istore 5, 2) := by decide +kernel
theorem dX12_batch_82 : decode cX12_batch 82 = .ok (.iload 5, 2) := by decide +kernel
theorem dX12_batch_84 : decode cX12_batch 84 = .ok (.iload_n 3, 1) := by decide +kernel
theorem dX12_batch_85 : decode cX12_batch 85 = .ok (.if_icmp .ge 92, 3) := by decide +kernel
theorem dX12_batch_88 : decode cX12_batch 88 = .ok (.bipush 120, 2) := by decide +kernel
theorem dX12_batch_90 : decode cX12_batch 90 = .ok (.iload_n 1, 1) := by decide +kernel
theorem dX12_batch_91 : decode cX12_batch 91 = .ok (.imul, 1) := by decide +kernel
theorem dX12_batch_92 : decode cX12_batch 92 = .ok (.iload_n 2, 1) := by decide +kernel
theorem dX12_batch_93 : decode cX12_batch 93 = .ok (.iadd, 1) := by decide +kernel
theorem dX12_batch_94 : decode cX12_batch 94 = .ok (.bipush 6, 2) := by decide +kernel
theorem dX12_batch_96 : decode cX12_batch 96 = .ok (.iload 5, 2) := by decide +kernel
theorem dX12_batch_98 : decode cX12_batch 98 = .ok (.imul, 1) := by decide +kernel
theorem dX12_batch_99 : decode cX12_batch 99 = .ok (.iadd, 1) := by decide +kernel
theorem dX12_batch_100 : decode cX12_batch 100 = .ok (.istore 6, 2) := by decide +kernel
theorem dX12_batch_102 : decode cX12_batch 102 = .ok (.iload 4, 2) := by decide +kernel
theorem dX12_batch_104 : decode cX12_batch 104 = .ok (.aload_n 0, 1) := by decide +kernel
theorem dX12_batch_105 : decode cX12_batch 105 = .ok (.aload_n 0, 1) := by decide +kernel
theorem dX12_batch_106 : decode cX12_batch 106 = .ok (.getfield 16, 3) := by decide +kernel
theorem dX12_batch_109 : decode cX12_batch 109 = .ok (.iload 6, 2) := by decide +kernel
theorem dX12_batch_111 : decode cX12_batch 111 = .ok (.iaload, 1) := by decide +kernel
theorem dX12_batch_112 : decode cX12_batch 112 = .ok (.aload_n 0, 1) := by decide +kernel
theorem dX12_batch_113 : decode cX12_batch 113 = .ok (.getfield 16, 3) := by decide +kernel
theorem dX12_batch_116 : decode cX12_batch 116 = .ok (.iload 6, 2) := by decide +kernel
theorem dX12_batch_118 : decode cX12_batch 118 = .ok (.iconst 1, 1) := by decide +kernel
theorem dX12_batch_119 : decode cX12_batch 119 = .ok (.iadd, 1) := by decide +kernel
theorem dX12_batch_120 : decode cX12_batch 120 = .ok (.iaload, 1) := by decide +kernel
theorem dX12_batch_121 : decode cX12_batch 121 = .ok (.aload_n 0, 1) := by decide +kernel
theorem dX12_batch_122 : decode cX12_batch 122 = .ok (.getfield 16, 3) := by decide +kernel
theorem dX12_batch_125 : decode cX12_batch 125 = .ok (.iload 6, 2) := by decide +kernel
theorem dX12_batch_127 : decode cX12_batch 127 = .ok (.iconst 2, 1) := by decide +kernel
theorem dX12_batch_128 : decode cX12_batch 128 = .ok (.iadd, 1) := by decide +kernel
theorem dX12_batch_129 : decode cX12_batch 129 = .ok (.iaload, 1) := by decide +kernel
theorem dX12_batch_130 : decode cX12_batch 130 = .ok (.aload_n 0, 1) := by decide +kernel
theorem dX12_batch_131 : decode cX12_batch 131 = .ok (.getfield 16, 3) := by decide +kernel
theorem dX12_batch_134 : decode cX12_batch 134 = .ok (.iload 6, 2) := by decide +kernel
theorem dX12_batch_136 : decode cX12_batch 136 = .ok (.iconst 3, 1) := by decide +kernel
theorem dX12_batch_137 : decode cX12_batch 137 = .ok (.iadd, 1) := by decide +kernel
theorem dX12_batch_138 : decode cX12_batch 138 = .ok (.iaload, 1) := by decide +kernel
theorem dX12_batch_139 : decode cX12_batch 139 = .ok (.aload_n 0, 1) := by decide +kernel
theorem dX12_batch_140 : decode cX12_batch 140 = .ok (.getfield 16, 3) := by decide +kernel
theorem dX12_batch_143 : decode cX12_batch 143 = .ok (.iload 6, 2) := by decide +kernel
theorem dX12_batch_145 : decode cX12_batch 145 = .ok (.iconst 4, 1) := by decide +kernel
theorem dX12_batch_146 : decode cX12_batch 146 = .ok (.iadd, 1) := by decide +kernel
theorem dX12_batch_147 : decode cX12_batch 147 = .ok (.iaload, 1) := by decide +kernel
theorem dX12_batch_148 : decode cX12_batch 148 = .ok (.aload_n 0, 1) := by decide +kernel
theorem dX12_batch_149 : decode cX12_batch 149 = .ok (.getfield 16, 3) := by decide +kernel
theorem dX12_batch_152 : decode cX12_batch 152 = .ok (.iload 6, 2) := by decide +kernel
theorem dX12_batch_154 : decode cX12_batch 154 = .ok (.iconst 5, 1) := by decide +kernel
theorem dX12_batch_155 : decode cX12_batch 155 = .ok (.iadd, 1) := by decide +kernel
theorem dX12_batch_156 : decode cX12_batch 156 = .ok (.iaload, 1) := by decide +kernel
theorem dX12_batch_157 : decode cX12_batch 157 = .ok (.invokevirtual 147, 3) := by decide +kernel
theorem dX12_batch_160 : decode cX12_batch 160 = .ok (.ifCond .lt 7, 3) := by decide +kernel
theorem dX12_batch_163 : decode cX12_batch 163 = .ok (.iconst 1, 1) := by decide +kernel
theorem dX12_batch_164 : decode cX12_batch 164 = .ok (.goto 4, 3) := by decide +kernel
theorem dX12_batch_167 : decode cX12_batch 167 = .ok (.iconst 0, 1) := by decide +kernel
theorem dX12_batch_168 : decode cX12_batch 168 = .ok (.iadd, 1) := by decide +kernel
theorem dX12_batch_169 : decode cX12_batch 169 = .ok (.istore 4, 2) := by decide +kernel
theorem dX12_batch_171 : decode cX12_batch 171 = .ok (.iinc 5 1, 3) := by decide +kernel
theorem dX12_batch_174 : decode cX12_batch 174 = .ok (.goto (-92), 3) := by decide +kernel
theorem dX12_batch_177 : decode cX12_batch 177 = .ok (.iload 4, 2) := by decide +kernel
theorem dX12_batch_179 : decode cX12_batch 179 = .ok (.ireturn, 1) := by decide +kernel
theorem kd_X12_batch : aKd m_X12_batch 3 := ⟨wd_16_10, wd_1_5, ⟨by decide +kernel, by decide +kernel, by decide +kernel⟩⟩
set_option maxRecDepth 100000 in
set_option maxHeartbeats 4000000 in
theorem l_X12_batch_24   (σ : aSt) (o : Int32 × aSt) (h : f_X12_batch_24   σ = some o) : AW true m_X12_batch 24 [] [] σ 0 0 (some (.int o.1)) o.2 := by
  unfold f_X12_batch_24 at h
  refine w_ldc (v := (-1000001)) dX12_batch_24 wd_10_21 ?_
  obtain rfl := Option.some.inj h
  exact w_ireturn dX12_batch_26 rfl (Nat.le_of_ble_eq_true rfl) (Nat.le_of_ble_eq_true rfl)
set_option maxRecDepth 100000 in
set_option maxHeartbeats 4000000 in
theorem l_X12_batch_70   (σ : aSt) (o : Int32 × aSt) (h : f_X12_batch_70   σ = some o) : AW true m_X12_batch 70 [(0, va_rf (some (57)))] [] σ 0 0 (some (.int o.1)) o.2 := by
  unfold f_X12_batch_70 at h
  refine w_aload_n 0 ((some (57))) dX12_batch_70 rfl rfl ?_
  refine w_iconst (v := 2) dX12_batch_71 (by decide) ?_
  replace h := e_bind h; obtain ⟨q24, e25, h⟩ := h
  refine w_callV1 (M2 := m_X12_found) (av := [.int (2)]) (ci := 12) (c_X12_found _ _ _ e25) dX12_batch_72 kd_X12_found wd_11_6 wd_11_7 wd_11_8 rfl rfl ⟨rfl, Or.inr ⟨rfl, by decide⟩⟩ rfl ⟨Nat.le_of_ble_eq_true rfl, Nat.le_of_ble_eq_true rfl, Nat.le_of_ble_eq_true rfl, Nat.le_of_ble_eq_true rfl⟩ (Nat.le_of_ble_eq_true rfl) ?_
  obtain rfl := Option.some.inj h
  exact w_ireturn dX12_batch_75 rfl (Nat.le_of_ble_eq_true rfl) (Nat.le_of_ble_eq_true rfl)
set_option maxRecDepth 100000 in
set_option maxHeartbeats 4000000 in
theorem l_X12_batch_168 (rec82 : Int32 → Int32 → Int32 → Int32 → Int32 → aSt → Option (Int32 × aSt)) (hrec82 : ∀ (x1 : Int32) (x2 : Int32) (x3 : Int32) (x4 : Int32) (x5 : Int32) (σ : aSt) (o : Int32 × aSt), rec82 x1 x2 x3 x4 x5 σ = some o → AW true m_X12_batch 82 [(0, va_rf (some (57))), (1, Value.int (x1)), (2, Value.int (x2)), (3, Value.int (x3)), (4, Value.int (x4)), (5, Value.int (x5))] [] σ 0 0 (some (.int o.1)) o.2) (x1 : Int32) (x2 : Int32) (x3 : Int32) (x5 : Int32) (t0 : Int32) (t1 : Int32) (σ : aSt) (o : Int32 × aSt) (h : f_X12_batch_168 rec82 x1 x2 x3 x5 t0 t1 σ = some o) : AW true m_X12_batch 168 [(0, va_rf (some (57))), (1, Value.int (x1)), (2, Value.int (x2)), (3, Value.int (x3)), (5, Value.int (x5))] [.int (t1), .int (t0)] σ 0 0 (some (.int o.1)) o.2 := by
  unfold f_X12_batch_168 at h
  refine w_iadd dX12_batch_168 ?_
  refine w_istore dX12_batch_169 (by decide) rfl ?_
  refine w_iinc (q := 5) (v := x5 + 1) dX12_batch_171 rfl rfl (by decide) rfl ?_
  refine w_goto 82 dX12_batch_174 (by decide) ?_
  refine w_sub [2, 3, 4, 5, 1, 0] rfl ?_
  exact hrec82 _ _ _ _ _ _ _ h
set_option maxRecDepth 100000 in
set_option maxHeartbeats 4000000 in
theorem l_X12_batch_82_b (rec82 : Int32 → Int32 → Int32 → Int32 → Int32 → aSt → Option (Int32 × aSt)) (hrec82 : ∀ (x1 : Int32) (x2 : Int32) (x3 : Int32) (x4 : Int32) (x5 : Int32) (σ : aSt) (o : Int32 × aSt), rec82 x1 x2 x3 x4 x5 σ = some o → AW true m_X12_batch 82 [(0, va_rf (some (57))), (1, Value.int (x1)), (2, Value.int (x2)), (3, Value.int (x3)), (4, Value.int (x4)), (5, Value.int (x5))] [] σ 0 0 (some (.int o.1)) o.2) (x1 : Int32) (x2 : Int32) (x3 : Int32) (x4 : Int32) (x5 : Int32) (σ : aSt) (o : Int32 × aSt) (h : f_X12_batch_82_b rec82 x1 x2 x3 x4 x5 σ = some o) : AW true m_X12_batch 82 [(0, va_rf (some (57))), (1, Value.int (x1)), (2, Value.int (x2)), (3, Value.int (x3)), (4, Value.int (x4)), (5, Value.int (x5))] [] σ 0 0 (some (.int o.1)) o.2 := by
  unfold f_X12_batch_82_b at h
  refine w_iload 5 dX12_batch_82 rfl ?_
  refine w_iload_n 3 dX12_batch_84 rfl rfl ?_
  refine w_icmp_ge 177 dX12_batch_85 (by decide) (fun c14 => ?_) (fun c14 => ?_)
  · replace h := e_t c14 h
    refine w_iload 4 dX12_batch_177 rfl ?_
    obtain rfl := Option.some.inj h
    exact w_ireturn dX12_batch_179 rfl (Nat.le_of_ble_eq_true rfl) (Nat.le_of_ble_eq_true rfl)
  · replace h := e_f c14 h
    refine w_bipush (v := 120) dX12_batch_88 (by decide) ?_
    refine w_iload_n 1 dX12_batch_90 rfl rfl ?_
    refine w_imul dX12_batch_91 ?_
    refine w_iload_n 2 dX12_batch_92 rfl rfl ?_
    refine w_iadd dX12_batch_93 ?_
    refine w_bipush (v := 6) dX12_batch_94 (by decide) ?_
    refine w_iload 5 dX12_batch_96 rfl ?_
    refine w_imul dX12_batch_98 ?_
    refine w_iadd dX12_batch_99 ?_
    refine w_istore dX12_batch_100 (by decide) rfl ?_
    refine w_iload 5 dX12_batch_102 rfl ?_
    refine w_aload_n 1 ((some (57))) dX12_batch_104 rfl rfl ?_
    refine w_aload_n 1 ((some (57))) dX12_batch_105 rfl rfl ?_
    refine w_get (v := va_rf (some 60)) dX12_batch_106 fl_RX12_16 ⟨rfl, Or.inr ⟨rfl, by decide⟩⟩ (aFv_k rfl) ?_
    refine w_iload 0 dX12_batch_109 rfl ?_
    replace h := e_grd h; obtain ⟨b15, h⟩ := h
    refine w_iaload dX12_batch_111 ⟨rfl, Or.inr ⟨rfl, by decide⟩⟩ b15 ?_
    refine w_aload_n 1 ((some (57))) dX12_batch_112 rfl rfl ?_
    refine w_get (v := va_rf (some 60)) dX12_batch_113 fl_RX12_16 ⟨rfl, Or.inr ⟨rfl, by decide⟩⟩ (aFv_k rfl) ?_
    refine w_iload 0 dX12_batch_116 rfl ?_
    refine w_iconst (v := 1) dX12_batch_118 (by decide) ?_
    refine w_iadd dX12_batch_119 ?_
    replace h := e_grd h; obtain ⟨b16, h⟩ := h
    refine w_iaload dX12_batch_120 ⟨rfl, Or.inr ⟨rfl, by decide⟩⟩ b16 ?_
    refine w_aload_n 1 ((some (57))) dX12_batch_121 rfl rfl ?_
    refine w_get (v := va_rf (some 60)) dX12_batch_122 fl_RX12_16 ⟨rfl, Or.inr ⟨rfl, by decide⟩⟩ (aFv_k rfl) ?_
    refine w_iload 0 dX12_batch_125 rfl ?_
    refine w_iconst (v := 2) dX12_batch_127 (by decide) ?_
    refine w_iadd dX12_batch_128 ?_
    replace h := e_grd h; obtain ⟨b17, h⟩ := h
    refine w_iaload dX12_batch_129 ⟨rfl, Or.inr ⟨rfl, by decide⟩⟩ b17 ?_
    refine w_aload_n 1 ((some (57))) dX12_batch_130 rfl rfl ?_
    refine w_get (v := va_rf (some 60)) dX12_batch_131 fl_RX12_16 ⟨rfl, Or.inr ⟨rfl, by decide⟩⟩ (aFv_k rfl) ?_
    refine w_iload 0 dX12_batch_134 rfl ?_
    refine w_iconst (v := 3) dX12_batch_136 (by decide) ?_
    refine w_iadd dX12_batch_137 ?_
    replace h := e_grd h; obtain ⟨b18, h⟩ := h
    refine w_iaload dX12_batch_138 ⟨rfl, Or.inr ⟨rfl, by decide⟩⟩ b18 ?_
    refine w_aload_n 1 ((some (57))) dX12_batch_139 rfl rfl ?_
    refine w_get (v := va_rf (some 60)) dX12_batch_140 fl_RX12_16 ⟨rfl, Or.inr ⟨rfl, by decide⟩⟩ (aFv_k rfl) ?_
    refine w_iload 0 dX12_batch_143 rfl ?_
    refine w_iconst (v := 4) dX12_batch_145 (by decide) ?_
    refine w_iadd dX12_batch_146 ?_
    replace h := e_grd h; obtain ⟨b19, h⟩ := h
    refine w_iaload dX12_batch_147 ⟨rfl, Or.inr ⟨rfl, by decide⟩⟩ b19 ?_
    refine w_aload_n 1 ((some (57))) dX12_batch_148 rfl rfl ?_
    refine w_get (v := va_rf (some 60)) dX12_batch_149 fl_RX12_16 ⟨rfl, Or.inr ⟨rfl, by decide⟩⟩ (aFv_k rfl) ?_
    refine w_iload 0 dX12_batch_152 rfl ?_
    refine w_iconst (v := 5) dX12_batch_154 (by decide) ?_
    refine w_iadd dX12_batch_155 ?_
    replace h := e_grd h; obtain ⟨b20, h⟩ := h
    refine w_iaload dX12_batch_156 ⟨rfl, Or.inr ⟨rfl, by decide⟩⟩ b20 ?_
    replace h := e_bind h; obtain ⟨q21, e22, h⟩ := h
    refine w_callV1 (M2 := m_X12_coming) (av := [.int (gI σ 60 (((120 * x1) + x2) + (6 * x5)).toNatClampNeg), .int (gI σ 60 ((((120 * x1) + x2) + (6 * x5)) + 1).toNatClampNeg), .int (gI σ 60 ((((120 * x1) + x2) + (6 * x5)) + 2).toNatClampNeg), .int (gI σ 60 ((((120 * x1) + x2) + (6 * x5)) + 3).toNatClampNeg), .int (gI σ 60 ((((120 * x1) + x2) + (6 * x5)) + 4).toNatClampNeg), .int (gI σ 60 ((((120 * x1) + x2) + (6 * x5)) + 5).toNatClampNeg)]) (ci := 12) (c_X12_coming _ _ _ _ _ _ _ _ e22) dX12_batch_157 kd_X12_coming wd_15_3 wd_15_4 wd_15_5 rfl rfl ⟨rfl, Or.inr ⟨rfl, by decide⟩⟩ rfl ⟨Nat.le_of_ble_eq_true rfl, Nat.le_of_ble_eq_true rfl, Nat.le_of_ble_eq_true rfl, Nat.le_of_ble_eq_true rfl⟩ (Nat.le_of_ble_eq_true rfl) ?_
    refine w_if_lt 167 dX12_batch_160 (by decide) (fun c23 => ?_) (fun c23 => ?_)
    · replace h := e_t c23 h
      refine w_iconst (v := 0) dX12_batch_167 (by decide) ?_
      refine w_sub [1, 2, 3, 4, 6] rfl ?_
      exact l_X12_batch_168 rec82 hrec82 _ _ _ _ _ _ _ _ h
    · replace h := e_f c23 h
      refine w_iconst (v := 1) dX12_batch_163 (by decide) ?_
      refine w_goto 168 dX12_batch_164 (by decide) ?_
      refine w_sub [1, 2, 3, 4, 6] rfl ?_
      exact l_X12_batch_168 rec82 hrec82 _ _ _ _ _ _ _ _ h
theorem l_X12_batch_82  : ∀ (n : Nat) (x1 : Int32) (x2 : Int32) (x3 : Int32) (x4 : Int32) (x5 : Int32) (σ : aSt) (o : Int32 × aSt), f_X12_batch_82  n x1 x2 x3 x4 x5 σ = some o → AW true m_X12_batch 82 [(0, va_rf (some (57))), (1, Value.int (x1)), (2, Value.int (x2)), (3, Value.int (x3)), (4, Value.int (x4)), (5, Value.int (x5))] [] σ 0 0 (some (.int o.1)) o.2
  | 0 => fun x1 x2 x3 x4 x5 σ o h => by cases h
  | n + 1 => fun x1 x2 x3 x4 x5 σ o h => l_X12_batch_82_b (f_X12_batch_82  n) (l_X12_batch_82  n) x1 x2 x3 x4 x5 σ o h
set_option maxRecDepth 100000 in
set_option maxHeartbeats 4000000 in
theorem c_X12_batch (p1 : Int32) (p2 : Int32) (p3 : Int32) (σ : aSt) (o : Int32 × aSt) (h : f_X12_batch p1 p2 p3 σ = some o) : AM true m_X12_batch [va_rf (some (57)), .int (p1), .int (p2), .int (p3)] σ (some (.int o.1)) o.2 := by
  refine AM_of2 (lv := [(0, va_rf (some (57))), (1, Value.int (p1)), (2, Value.int (p2)), (3, Value.int (p3))]) (by decide +kernel) rfl (Nat.le_of_ble_eq_true rfl) ?_
  unfold f_X12_batch at h
  refine w_aload_n 0 ((some (57))) dX12_batch_0 rfl rfl ?_
  refine w_iconst (v := 0) dX12_batch_1 (by decide) ?_
  refine w_putI dX12_batch_2 fl_RX12_102 (Or.inl rfl) rfl ⟨rfl, Or.inr ⟨rfl, by decide⟩⟩ ?_
  refine w_iload_n 1 dX12_batch_5 rfl rfl ?_
  replace h := e_bind h; obtain ⟨q1, e2, h⟩ := h
  refine w_callS1 (M2 := m_X12_isSheet) (av := [.int (p1)]) (c_X12_isSheet _ _ _ e2) dX12_batch_6 kd_X12_isSheet wd_10_23 wd_11_0 rfl rfl ⟨Nat.le_of_ble_eq_true rfl, Nat.le_of_ble_eq_true rfl, Nat.le_of_ble_eq_true rfl, Nat.le_of_ble_eq_true rfl⟩ (Nat.le_of_ble_eq_true rfl) ?_
  refine w_if_eq 24 dX12_batch_9 (by decide) (fun c3 => ?_) (fun c3 => ?_)
  · replace h := e_t c3 h
    refine w_sub [] rfl ?_
    exact l_X12_batch_24 _ _ h
  · replace h := e_f c3 h
    refine w_iload_n 3 dX12_batch_12 rfl rfl ?_
    refine w_i2l dX12_batch_13 ?_
    refine w_lconst (v := 1) dX12_batch_14 (by decide) ?_
    refine w_ldc2 (v := 20) dX12_batch_15 wd_16_11 ?_
    replace h := e_bind h; obtain ⟨q4, e5, h⟩ := h
    refine w_callS1 (M2 := m_X12_in) (av := [.long (p3.toInt64), .long (1), .long (20)]) (c_X12_in _ _ _ _ _ e5) dX12_batch_18 kd_X12_in wd_11_3 wd_11_4 rfl rfl ⟨Nat.le_of_ble_eq_true rfl, Nat.le_of_ble_eq_true rfl, Nat.le_of_ble_eq_true rfl, Nat.le_of_ble_eq_true rfl⟩ (Nat.le_of_ble_eq_true rfl) ?_
    refine w_if_ne 27 dX12_batch_21 (by decide) (fun c6 => ?_) (fun c6 => ?_)
    · replace h := e_f c6 h
      refine w_aload_n 0 ((some (57))) dX12_batch_27 rfl rfl ?_
      refine w_iconst (v := 0) dX12_batch_28 (by decide) ?_
      refine w_putI dX12_batch_29 fl_RX12_105 (Or.inl rfl) rfl ⟨rfl, Or.inr ⟨rfl, by decide⟩⟩ ?_
      refine w_aload_n 0 ((some (57))) dX12_batch_32 rfl rfl ?_
      refine w_get (v := va_rf (some 58)) dX12_batch_33 fl_RX12_7 ⟨rfl, Or.inr ⟨rfl, by decide⟩⟩ (aFv_k rfl) ?_
      refine w_iload_n 1 dX12_batch_36 rfl rfl ?_
      replace h := e_grd h; obtain ⟨b7, h⟩ := h
      refine w_iaload dX12_batch_37 ⟨rfl, Or.inr ⟨rfl, by decide⟩⟩ b7 ?_
      refine w_if_ge 47 dX12_batch_38 (by decide) (fun c8 => ?_) (fun c8 => ?_)
      · replace h := e_t c8 h
        refine w_iload_n 2 dX12_batch_47 rfl rfl ?_
        refine w_if_lt 70 dX12_batch_48 (by decide) (fun c9 => ?_) (fun c9 => ?_)
        · replace h := e_t c9 h
          refine w_sub [0] rfl ?_
          exact l_X12_batch_70 _ _ h
        · replace h := e_f c9 h
          refine w_iload_n 2 dX12_batch_51 rfl rfl ?_
          refine w_i2l dX12_batch_52 ?_
          refine w_bipush (v := 6) dX12_batch_53 (by decide) ?_
          refine w_iload_n 3 dX12_batch_55 rfl rfl ?_
          refine w_imul dX12_batch_56 ?_
          refine w_i2l dX12_batch_57 ?_
          refine w_ladd dX12_batch_58 ?_
          refine w_aload_n 0 ((some (57))) dX12_batch_59 rfl rfl ?_
          refine w_get (v := va_rf (some 59)) dX12_batch_60 fl_RX12_13 ⟨rfl, Or.inr ⟨rfl, by decide⟩⟩ (aFv_k rfl) ?_
          refine w_iload_n 1 dX12_batch_63 rfl rfl ?_
          replace h := e_grd h; obtain ⟨b10, h⟩ := h
          refine w_iaload dX12_batch_64 ⟨rfl, Or.inr ⟨rfl, by decide⟩⟩ b10 ?_
          refine w_i2l dX12_batch_65 ?_
          refine w_lcmp dX12_batch_66 ?_
          refine w_if_le 76 dX12_batch_67 (by decide) (fun c11 => ?_) (fun c11 => ?_)
          · replace h := e_t c11 h
            refine w_iconst (v := 0) dX12_batch_76 (by decide) ?_
            refine w_istore dX12_batch_77 (by decide) rfl ?_
            refine w_iconst (v := 0) dX12_batch_79 (by decide) ?_
            refine w_istore dX12_batch_80 (by decide) rfl ?_
            refine w_sub [2, 3, 4, 5, 1, 0] rfl ?_
            exact l_X12_batch_82 aN _ _ _ _ _ _ _ h
          · replace h := e_f c11 h
            refine w_sub [0] rfl ?_
            exact l_X12_batch_70 _ _ h
      · replace h := e_f c8 h
        refine w_aload_n 0 ((some (57))) dX12_batch_41 rfl rfl ?_
        refine w_iconst (v := 1) dX12_batch_42 (by decide) ?_
        replace h := e_bind h; obtain ⟨q12, e13, h⟩ := h
        refine w_callV1 (M2 := m_X12_found) (av := [.int (1)]) (ci := 12) (c_X12_found _ _ _ e13) dX12_batch_43 kd_X12_found wd_11_6 wd_11_7 wd_11_8 rfl rfl ⟨rfl, Or.inr ⟨rfl, by decide⟩⟩ rfl ⟨Nat.le_of_ble_eq_true rfl, Nat.le_of_ble_eq_true rfl, Nat.le_of_ble_eq_true rfl, Nat.le_of_ble_eq_true rfl⟩ (Nat.le_of_ble_eq_true rfl) ?_
        obtain rfl := Option.some.inj h
        exact w_ireturn dX12_batch_46 rfl (Nat.le_of_ble_eq_true rfl) (Nat.le_of_ble_eq_true rfl)
    · replace h := e_t c6 h
      refine w_sub [] rfl ?_
      exact l_X12_batch_24 _ _ h
theorem dX12_told_0 : decode cX12_told 0 = .ok (.aload_n 0, 1) := by decide +kernel
theorem dX12_told_1 : decode cX12_told 1 = .ok (.iconst 0, 1) := by decide +kernel
theorem dX12_told_2 : decode cX12_told 2 = .ok (.putfield 102, 3) := by decide +kernel
theorem dX12_told_5 : decode cX12_told 5 = .ok (.aload_n 0, 1) := by decide +kernel
theorem dX12_told_6 : decode cX12_told 6 = .ok (.iload_n 1, 1) := by decide +kernel
theorem dX12_told_7 : decode cX12_told 7 = .ok (.invokevirtual 138, 3) := by decide +kernel
theorem dX12_told_10 : decode cX12_told 10 = .ok (.istore_n 3, 1) := by decide +kernel
theorem dX12_told_11 : decode cX12_told 11 = .ok (.iload_n 3, 1) := by decide +kernel
theorem dX12_told_12 : decode cX12_told 12 = .ok (.ldc 126, 2) := by decide +kernel
theorem dX12_told_14 : decode cX12_told 14 = .ok (.if_icmp .eq 15, 3) := by decide +kernel
theorem dX12_told_17 : decode cX12_told 17 = .ok (.iload_n 2, 1) := by decide +kernel
theorem dX12_told_18 : decode cX12_told 18 = .ok (.i2l, 1) := by decide +kernel
theorem dX12_told_19 : decode cX12_told 19 = .ok (.lconst 0, 1) := by decide +kernel
theorem dX12_told_20 : decode cX12_told 20 = .ok (.ldc2_w 153, 3) := by decide +kernel
theorem dX12_told_23 : decode cX12_told 23 = .ok (.invokestatic 111, 3) := by decide +kernel
theorem dX12_told_26 : decode cX12_told 26 = .ok (.ifCond .ne 6, 3) := by decide +kernel
theorem dX12_told_29 : decode cX12_told 29 = .ok (.ldc 121, 2) := by decide +kernel
theorem dX12_told_31 : decode cX12_told 31 = .ok (.ireturn, 1) := by decide +kernel
theorem dX12_told_32 : decode cX12_told 32 = .ok (.iload_n 2, 1) := by decide +kernel
theorem dX12_told_33 : decode cX12_told 33 = .ok (.ifCond .ne 7, 3) := by decide +kernel
theorem dX12_told_36 : decode cX12_told 36 = .ok (.iload_n 3, 1) := by decide +kernel
theorem dX12_told_37 : decode cX12_told 37 = .ok (.goto 79, 3) := by decide +kernel
theorem dX12_told_40 : decode cX12_told 40 = .ok (.iload_n 2, 1) := by decide +kernel
theorem dX12_told_41 : decode cX12_told 41 = .ok (.iconst 1, 1) := by decide +kernel
theorem dX12_told_42 : decode cX12_told 42 = .ok (.if_icmp .ne 12, 3) := by decide +kernel
theorem dX12_told_45 : decode cX12_told 45 = .ok (.aload_n 0, 1) := by decide +kernel
theorem dX12_told_46 : decode cX12_told 46 = .ok (.getfield 22, 3) := by decide +kernel
theorem dX12_told_49 : decode cX12_told 49 = .ok (.iload_n 3, 1) := by decide +kernel
theorem dX12_told_50 : decode cX12_told 50 = .ok (.iaload, 1) := by decide +kernel
theorem dX12_told_51 : decode cX12_told 51 = .ok (.goto 65, 3) := by decide +kernel
theorem dX12_told_54 : decode cX12_told 54 = .ok (.iload_n 2, 1) := by decide +kernel
theorem dX12_told_55 : decode cX12_told 55 = .ok (.iconst 2, 1) := by decide +kernel
theorem dX12_told_56 : decode cX12_told 56 = .ok (.if_icmp .ne 12, 3) := by decide +kernel
theorem dX12_told_59 : decode cX12_told 59 = .ok (.aload_n 0, 1) := by decide +kernel
theorem dX12_told_60 : decode cX12_told 60 = .ok (.getfield 25, 3) := by decide +kernel
theorem dX12_told_63 : decode cX12_told 63 = .ok (.iload_n 3, 1) := by decide +kernel
theorem dX12_told_64 : decode cX12_told 64 = .ok (.iaload, 1) := by decide +kernel
theorem dX12_told_65 : decode cX12_told 65 = .ok (.goto 51, 3) := by decide +kernel
theorem dX12_told_68 : decode cX12_told 68 = .ok (.iload_n 2, 1) := by decide +kernel
theorem dX12_told_69 : decode cX12_told 69 = .ok (.iconst 3, 1) := by decide +kernel
theorem dX12_told_70 : decode cX12_told 70 = .ok (.if_icmp .ne 12, 3) := by decide +kernel
theorem dX12_told_73 : decode cX12_told 73 = .ok (.aload_n 0, 1) := by decide +kernel
theorem dX12_told_74 : decode cX12_told 74 = .ok (.getfield 28, 3) := by decide +kernel
theorem dX12_told_77 : decode cX12_told 77 = .ok (.iload_n 3, 1) := by decide +kernel
theorem dX12_told_78 : decode cX12_told 78 = .ok (.iaload, 1) := by decide +kernel
theorem dX12_told_79 : decode cX12_told 79 = .ok (.goto 37, 3) := by decide +kernel
theorem dX12_told_82 : decode cX12_told 82 = .ok (.iload_n 2, 1) := by decide +kernel
theorem dX12_told_83 : decode cX12_told 83 = .ok (.iconst 4, 1) := by decide +kernel
theorem dX12_told_84 : decode cX12_told 84 = .ok (.if_icmp .ne 12, 3) := by decide +kernel
theorem dX12_told_87 : decode cX12_told 87 = .ok (.aload_n 0, 1) := by decide +kernel
theorem dX12_told_88 : decode cX12_told 88 = .ok (.getfield 31, 3) := by decide +kernel
theorem dX12_told_91 : decode cX12_told 91 = .ok (.iload_n 3, 1) := by decide +kernel
theorem dX12_told_92 : decode cX12_told 92 = .ok (.iaload, 1) := by decide +kernel
theorem dX12_told_93 : decode cX12_told 93 = .ok (.goto 23, 3) := by decide +kernel
theorem dX12_told_96 : decode cX12_told 96 = .ok (.iload_n 2, 1) := by decide +kernel
theorem dX12_told_97 : decode cX12_told 97 = .ok (.iconst 5, 1) := by decide +kernel
theorem dX12_told_98 : decode cX12_told 98 = .ok (.if_icmp .ne 12, 3) := by decide +kernel
theorem dX12_told_101 : decode cX12_told 101 = .ok (.aload_n 0, 1) := by decide +kernel
theorem dX12_told_102 : decode cX12_told 102 = .ok (.getfield 34, 3) := by decide +kernel
theorem dX12_told_105 : decode cX12_told 105 = .ok (.iload_n 3, 1) := by decide +kernel
theorem dX12_told_106 : decode cX12_told 106 = .ok (.iaload, 1) := by decide +kernel
theorem dX12_told_107 : decode cX12_told 107 = .ok (.goto 9, 3) := by decide +kernel
theorem dX12_told_110 : decode cX12_told 110 = .ok (.aload_n 0, 1) := by decide +kernel
theorem dX12_told_111 : decode cX12_told 111 = .ok (.getfield 37, 3) := by decide +kernel
theorem dX12_told_114 : decode cX12_told 114 = .ok (.iload_n 3, 1) := by decide +kernel
theorem dX12_told_115 : decode cX12_told 115 = .ok (.iaload, 1) := by decide +kernel
theorem dX12_told_116 : decode cX12_told 116 = .ok (.ireturn, 1) := by decide +kernel
theorem kd_X12_told : aKd m_X12_told 2 := ⟨wd_17_1, wd_1_5, ⟨by decide +kernel, by decide +kernel, by decide +kernel⟩⟩
set_option maxRecDepth 100000 in
set_option maxHeartbeats 4000000 in
theorem l_X12_told_29   (σ : aSt) (o : Int32 × aSt) (h : f_X12_told_29   σ = some o) : AW true m_X12_told 29 [] [] σ 0 0 (some (.int o.1)) o.2 := by
  unfold f_X12_told_29 at h
  refine w_ldc (v := (-1000001)) dX12_told_29 wd_10_21 ?_
  obtain rfl := Option.some.inj h
  exact w_ireturn dX12_told_31 rfl (Nat.le_of_ble_eq_true rfl) (Nat.le_of_ble_eq_true rfl)
set_option maxRecDepth 100000 in
set_option maxHeartbeats 4000000 in
theorem l_X12_told_116  (t0 : Int32) (σ : aSt) (o : Int32 × aSt) (h : f_X12_told_116  t0 σ = some o) : AW true m_X12_told 116 [] [.int (t0)] σ 0 0 (some (.int o.1)) o.2 := by
  unfold f_X12_told_116 at h
  obtain rfl := Option.some.inj h
  exact w_ireturn dX12_told_116 rfl (Nat.le_of_ble_eq_true rfl) (Nat.le_of_ble_eq_true rfl)
set_option maxRecDepth 100000 in
set_option maxHeartbeats 4000000 in
theorem c_X12_told (p1 : Int32) (p2 : Int32) (σ : aSt) (o : Int32 × aSt) (h : f_X12_told p1 p2 σ = some o) : AM true m_X12_told [va_rf (some (57)), .int (p1), .int (p2)] σ (some (.int o.1)) o.2 := by
  refine AM_of2 (lv := [(0, va_rf (some (57))), (1, Value.int (p1)), (2, Value.int (p2))]) (by decide +kernel) rfl (Nat.le_of_ble_eq_true rfl) ?_
  unfold f_X12_told at h
  refine w_aload_n 0 ((some (57))) dX12_told_0 rfl rfl ?_
  refine w_iconst (v := 0) dX12_told_1 (by decide) ?_
  refine w_putI dX12_told_2 fl_RX12_102 (Or.inl rfl) rfl ⟨rfl, Or.inr ⟨rfl, by decide⟩⟩ ?_
  refine w_aload_n 0 ((some (57))) dX12_told_5 rfl rfl ?_
  refine w_iload_n 1 dX12_told_6 rfl rfl ?_
  replace h := e_bind h; obtain ⟨q1, e2, h⟩ := h
  refine w_callV1 (M2 := m_X12_numberOf) (av := [.int (p1)]) (ci := 12) (c_X12_numberOf _ _ _ e2) dX12_told_7 kd_X12_numberOf wd_15_15 wd_15_16 wd_15_17 rfl rfl ⟨rfl, Or.inr ⟨rfl, by decide⟩⟩ rfl ⟨Nat.le_of_ble_eq_true rfl, Nat.le_of_ble_eq_true rfl, Nat.le_of_ble_eq_true rfl, Nat.le_of_ble_eq_true rfl⟩ (Nat.le_of_ble_eq_true rfl) ?_
  refine w_istore_n dX12_told_10 rfl (by decide) rfl ?_
  refine w_iload_n 0 dX12_told_11 rfl rfl ?_
  refine w_ldc (v := (-1000000)) dX12_told_12 wd_15_11 ?_
  refine w_icmp_eq 29 dX12_told_14 (by decide) (fun c3 => ?_) (fun c3 => ?_)
  · replace h := e_t c3 h
    refine w_sub [] rfl ?_
    exact l_X12_told_29 _ _ h
  · replace h := e_f c3 h
    refine w_iload_n 3 dX12_told_17 rfl rfl ?_
    refine w_i2l dX12_told_18 ?_
    refine w_lconst (v := 0) dX12_told_19 (by decide) ?_
    refine w_ldc2 (v := 6) dX12_told_20 wd_17_2 ?_
    replace h := e_bind h; obtain ⟨q4, e5, h⟩ := h
    refine w_callS1 (M2 := m_X12_in) (av := [.long (p2.toInt64), .long (0), .long (6)]) (c_X12_in _ _ _ _ _ e5) dX12_told_23 kd_X12_in wd_11_3 wd_11_4 rfl rfl ⟨Nat.le_of_ble_eq_true rfl, Nat.le_of_ble_eq_true rfl, Nat.le_of_ble_eq_true rfl, Nat.le_of_ble_eq_true rfl⟩ (Nat.le_of_ble_eq_true rfl) ?_
    refine w_if_ne 32 dX12_told_26 (by decide) (fun c6 => ?_) (fun c6 => ?_)
    · replace h := e_f c6 h
      refine w_iload_n 3 dX12_told_32 rfl rfl ?_
      refine w_if_ne 40 dX12_told_33 (by decide) (fun c7 => ?_) (fun c7 => ?_)
      · replace h := e_f c7 h
        refine w_iload_n 3 dX12_told_40 rfl rfl ?_
        refine w_iconst (v := 1) dX12_told_41 (by decide) ?_
        refine w_icmp_ne 54 dX12_told_42 (by decide) (fun c8 => ?_) (fun c8 => ?_)
        · replace h := e_f c8 h
          refine w_iload_n 3 dX12_told_54 rfl rfl ?_
          refine w_iconst (v := 2) dX12_told_55 (by decide) ?_
          refine w_icmp_ne 68 dX12_told_56 (by decide) (fun c9 => ?_) (fun c9 => ?_)
          · replace h := e_f c9 h
            refine w_iload_n 3 dX12_told_68 rfl rfl ?_
            refine w_iconst (v := 3) dX12_told_69 (by decide) ?_
            refine w_icmp_ne 82 dX12_told_70 (by decide) (fun c10 => ?_) (fun c10 => ?_)
            · replace h := e_f c10 h
              refine w_iload_n 3 dX12_told_82 rfl rfl ?_
              refine w_iconst (v := 4) dX12_told_83 (by decide) ?_
              refine w_icmp_ne 96 dX12_told_84 (by decide) (fun c11 => ?_) (fun c11 => ?_)
              · replace h := e_f c11 h
                refine w_iload_n 3 dX12_told_96 rfl rfl ?_
                refine w_iconst (v := 5) dX12_told_97 (by decide) ?_
                refine w_icmp_ne 110 dX12_told_98 (by decide) (fun c12 => ?_) (fun c12 => ?_)
                · replace h := e_f c12 h
                  refine w_aload_n 1 ((some (57))) dX12_told_110 rfl rfl ?_
                  refine w_get (v := va_rf (some 67)) dX12_told_111 fl_RX12_37 ⟨rfl, Or.inr ⟨rfl, by decide⟩⟩ (aFv_k rfl) ?_
                  refine w_iload_n 0 dX12_told_114 rfl rfl ?_
                  replace h := e_grd h; obtain ⟨b13, h⟩ := h
                  refine w_iaload dX12_told_115 ⟨rfl, Or.inr ⟨rfl, by decide⟩⟩ b13 ?_
                  refine w_sub [] rfl ?_
                  exact l_X12_told_116 _ _ _ h
                · replace h := e_t c12 h
                  refine w_aload_n 1 ((some (57))) dX12_told_101 rfl rfl ?_
                  refine w_get (v := va_rf (some 66)) dX12_told_102 fl_RX12_34 ⟨rfl, Or.inr ⟨rfl, by decide⟩⟩ (aFv_k rfl) ?_
                  refine w_iload_n 0 dX12_told_105 rfl rfl ?_
                  replace h := e_grd h; obtain ⟨b14, h⟩ := h
                  refine w_iaload dX12_told_106 ⟨rfl, Or.inr ⟨rfl, by decide⟩⟩ b14 ?_
                  refine w_goto 116 dX12_told_107 (by decide) ?_
                  refine w_sub [] rfl ?_
                  exact l_X12_told_116 _ _ _ h
              · replace h := e_t c11 h
                refine w_aload_n 1 ((some (57))) dX12_told_87 rfl rfl ?_
                refine w_get (v := va_rf (some 65)) dX12_told_88 fl_RX12_31 ⟨rfl, Or.inr ⟨rfl, by decide⟩⟩ (aFv_k rfl) ?_
                refine w_iload_n 0 dX12_told_91 rfl rfl ?_
                replace h := e_grd h; obtain ⟨b15, h⟩ := h
                refine w_iaload dX12_told_92 ⟨rfl, Or.inr ⟨rfl, by decide⟩⟩ b15 ?_
                refine w_goto 116 dX12_told_93 (by decide) ?_
                refine w_sub [] rfl ?_
                exact l_X12_told_116 _ _ _ h
            · replace h := e_t c10 h
              refine w_aload_n 1 ((some (57))) dX12_told_73 rfl rfl ?_
              refine w_get (v := va_rf (some 64)) dX12_told_74 fl_RX12_28 ⟨rfl, Or.inr ⟨rfl, by decide⟩⟩ (aFv_k rfl) ?_
              refine w_iload_n 0 dX12_told_77 rfl rfl ?_
              replace h := e_grd h; obtain ⟨b16, h⟩ := h
              refine w_iaload dX12_told_78 ⟨rfl, Or.inr ⟨rfl, by decide⟩⟩ b16 ?_
              refine w_goto 116 dX12_told_79 (by decide) ?_
              refine w_sub [] rfl ?_
              exact l_X12_told_116 _ _ _ h
          · replace h := e_t c9 h
            refine w_aload_n 1 ((some (57))) dX12_told_59 rfl rfl ?_
            refine w_get (v := va_rf (some 63)) dX12_told_60 fl_RX12_25 ⟨rfl, Or.inr ⟨rfl, by decide⟩⟩ (aFv_k rfl) ?_
            refine w_iload_n 0 dX12_told_63 rfl rfl ?_
            replace h := e_grd h; obtain ⟨b17, h⟩ := h
            refine w_iaload dX12_told_64 ⟨rfl, Or.inr ⟨rfl, by decide⟩⟩ b17 ?_
            refine w_goto 116 dX12_told_65 (by decide) ?_
            refine w_sub [] rfl ?_
            exact l_X12_told_116 _ _ _ h
        · replace h := e_t c8 h
          refine w_aload_n 1 ((some (57))) dX12_told_45 rfl rfl ?_
          refine w_get (v := va_rf (some 62)) dX12_told_46 fl_RX12_22 ⟨rfl, Or.inr ⟨rfl, by decide⟩⟩ (aFv_k rfl) ?_
          refine w_iload_n 0 dX12_told_49 rfl rfl ?_
          replace h := e_grd h; obtain ⟨b18, h⟩ := h
          refine w_iaload dX12_told_50 ⟨rfl, Or.inr ⟨rfl, by decide⟩⟩ b18 ?_
          refine w_goto 116 dX12_told_51 (by decide) ?_
          refine w_sub [] rfl ?_
          exact l_X12_told_116 _ _ _ h
      · replace h := e_t c7 h
        refine w_iload_n 0 dX12_told_36 rfl rfl ?_
        refine w_goto 116 dX12_told_37 (by decide) ?_
        refine w_sub [] rfl ?_
        exact l_X12_told_116 _ _ _ h
    · replace h := e_t c6 h
      refine w_sub [] rfl ?_
      exact l_X12_told_29 _ _ h
theorem dX12_order_0 : decode cX12_order 0 = .ok (.aload_n 0, 1) := by decide +kernel
theorem dX12_order_1 : decode cX12_order 1 = .ok (.iconst 0, 1) := by decide +kernel
theorem dX12_order_2 : decode cX12_order 2 = .ok (.putfield 102, 3) := by decide +kernel
theorem dX12_order_5 : decode cX12_order 5 = .ok (.iload_n 1, 1) := by decide +kernel
theorem dX12_order_6 : decode cX12_order 6 = .ok (.i2l, 1) := by decide +kernel
theorem dX12_order_7 : decode cX12_order 7 = .ok (.lconst 0, 1) := by decide +kernel
theorem dX12_order_8 : decode cX12_order 8 = .ok (.aload_n 0, 1) := by decide +kernel
theorem dX12_order_9 : decode cX12_order 9 = .ok (.getfield 127, 3) := by decide +kernel
theorem dX12_order_12 : decode cX12_order 12 = .ok (.iconst 1, 1) := by decide +kernel
theorem dX12_order_13 : decode cX12_order 13 = .ok (.isub, 1) := by decide +kernel
theorem dX12_order_14 : decode cX12_order 14 = .ok (.i2l, 1) := by decide +kernel
theorem dX12_order_15 : decode cX12_order 15 = .ok (.invokestatic 111, 3) := by decide +kernel
theorem dX12_order_18 : decode cX12_order 18 = .ok (.ifCond .eq 17, 3) := by decide +kernel
theorem dX12_order_21 : decode cX12_order 21 = .ok (.aload_n 0, 1) := by decide +kernel
theorem dX12_order_22 : decode cX12_order 22 = .ok (.getfield 19, 3) := by decide +kernel
theorem dX12_order_25 : decode cX12_order 25 = .ok (.aload_n 0, 1) := by decide +kernel
theorem dX12_order_26 : decode cX12_order 26 = .ok (.getfield 40, 3) := by decide +kernel
theorem dX12_order_29 : decode cX12_order 29 = .ok (.iload_n 1, 1) := by decide +kernel
theorem dX12_order_30 : decode cX12_order 30 = .ok (.iaload, 1) := by decide +kernel
theorem dX12_order_31 : decode cX12_order 31 = .ok (.iaload, 1) := by decide +kernel
theorem dX12_order_32 : decode cX12_order 32 = .ok (.goto 5, 3) := by decide +kernel
theorem dX12_order_35 : decode cX12_order 35 = .ok (.ldc 126, 2) := by decide +kernel
theorem dX12_order_37 : decode cX12_order 37 = .ok (.ireturn, 1) := by decide +kernel
theorem kd_X12_order : aKd m_X12_order 1 := ⟨wd_17_16, wd_1_5, ⟨by decide +kernel, by decide +kernel, by decide +kernel⟩⟩
set_option maxRecDepth 100000 in
set_option maxHeartbeats 4000000 in
theorem l_X12_order_37  (t0 : Int32) (σ : aSt) (o : Int32 × aSt) (h : f_X12_order_37  t0 σ = some o) : AW true m_X12_order 37 [] [.int (t0)] σ 0 0 (some (.int o.1)) o.2 := by
  unfold f_X12_order_37 at h
  obtain rfl := Option.some.inj h
  exact w_ireturn dX12_order_37 rfl (Nat.le_of_ble_eq_true rfl) (Nat.le_of_ble_eq_true rfl)
set_option maxRecDepth 100000 in
set_option maxHeartbeats 4000000 in
theorem c_X12_order (p1 : Int32) (σ : aSt) (o : Int32 × aSt) (h : f_X12_order p1 σ = some o) : AM true m_X12_order [va_rf (some (57)), .int (p1)] σ (some (.int o.1)) o.2 := by
  refine AM_of2 (lv := [(0, va_rf (some (57))), (1, Value.int (p1))]) (by decide +kernel) rfl (Nat.le_of_ble_eq_true rfl) ?_
  unfold f_X12_order at h
  refine w_aload_n 0 ((some (57))) dX12_order_0 rfl rfl ?_
  refine w_iconst (v := 0) dX12_order_1 (by decide) ?_
  refine w_putI dX12_order_2 fl_RX12_102 (Or.inl rfl) rfl ⟨rfl, Or.inr ⟨rfl, by decide⟩⟩ ?_
  refine w_iload_n 1 dX12_order_5 rfl rfl ?_
  refine w_i2l dX12_order_6 ?_
  refine w_lconst (v := 0) dX12_order_7 (by decide) ?_
  refine w_aload_n 0 ((some (57))) dX12_order_8 rfl rfl ?_
  refine w_get dX12_order_9 fl_RX12_127 ⟨rfl, Or.inr ⟨rfl, by decide⟩⟩ (aFv_i rfl) ?_
  refine w_iconst (v := 1) dX12_order_12 (by decide) ?_
  refine w_isub dX12_order_13 ?_
  refine w_i2l dX12_order_14 ?_
  replace h := e_bind h; obtain ⟨q1, e2, h⟩ := h
  refine w_callS1 (M2 := m_X12_in) (av := [.long (p1.toInt64), .long (0), .long (((gI (sI σ 57 0 (0)) 57 5) - 1).toInt64)]) (c_X12_in _ _ _ _ _ e2) dX12_order_15 kd_X12_in wd_11_3 wd_11_4 rfl rfl ⟨Nat.le_of_ble_eq_true rfl, Nat.le_of_ble_eq_true rfl, Nat.le_of_ble_eq_true rfl, Nat.le_of_ble_eq_true rfl⟩ (Nat.le_of_ble_eq_true rfl) ?_
  refine w_if_eq 35 dX12_order_18 (by decide) (fun c3 => ?_) (fun c3 => ?_)
  · replace h := e_t c3 h
    refine w_ldc (v := (-1000000)) dX12_order_35 wd_15_11 ?_
    refine w_sub [] rfl ?_
    exact l_X12_order_37 _ _ _ h
  · replace h := e_f c3 h
    refine w_aload_n 0 ((some (57))) dX12_order_21 rfl rfl ?_
    refine w_get (v := va_rf (some 61)) dX12_order_22 fl_RX12_19 ⟨rfl, Or.inr ⟨rfl, by decide⟩⟩ (aFv_k rfl) ?_
    refine w_aload_n 0 ((some (57))) dX12_order_25 rfl rfl ?_
    refine w_get (v := va_rf (some 68)) dX12_order_26 fl_RX12_40 ⟨rfl, Or.inr ⟨rfl, by decide⟩⟩ (aFv_k rfl) ?_
    refine w_iload_n 1 dX12_order_29 rfl rfl ?_
    replace h := e_grd h; obtain ⟨b4, h⟩ := h
    refine w_iaload dX12_order_30 ⟨rfl, Or.inr ⟨rfl, by decide⟩⟩ b4 ?_
    replace h := e_grd h; obtain ⟨b5, h⟩ := h
    refine w_iaload dX12_order_31 ⟨rfl, Or.inr ⟨rfl, by decide⟩⟩ b5 ?_
    refine w_goto 37 dX12_order_32 (by decide) ?_
    refine w_sub [] rfl ?_
    exact l_X12_order_37 _ _ _ h
theorem dX12_mark_0 : decode cX12_mark 0 = .ok (.aload_n 0, 1) := by decide +kernel
theorem dX12_mark_1 : decode cX12_mark 1 = .ok (.iconst 0, 1) := by decide +kernel
theorem dX12_mark_2 : decode cX12_mark 2 = .ok (.putfield 102, 3) := by decide +kernel
theorem dX12_mark_5 : decode cX12_mark 5 = .ok (.iload_n 1, 1) := by decide +kernel
theorem dX12_mark_6 : decode cX12_mark 6 = .ok (.i2l, 1) := by decide +kernel
theorem dX12_mark_7 : decode cX12_mark 7 = .ok (.lconst 0, 1) := by decide +kernel
theorem dX12_mark_8 : decode cX12_mark 8 = .ok (.ldc2_w 134, 3) := by decide +kernel
theorem dX12_mark_11 : decode cX12_mark 11 = .ok (.invokestatic 111, 3) := by decide +kernel
theorem dX12_mark_14 : decode cX12_mark 14 = .ok (.ifCond .eq 13, 3) := by decide +kernel
theorem dX12_mark_17 : decode cX12_mark 17 = .ok (.iload_n 2, 1) := by decide +kernel
theorem dX12_mark_18 : decode cX12_mark 18 = .ok (.i2l, 1) := by decide +kernel
theorem dX12_mark_19 : decode cX12_mark 19 = .ok (.lconst 0, 1) := by decide +kernel
theorem dX12_mark_20 : decode cX12_mark 20 = .ok (.lconst 1, 1) := by decide +kernel
theorem dX12_mark_21 : decode cX12_mark 21 = .ok (.invokestatic 111, 3) := by decide +kernel
theorem dX12_mark_24 : decode cX12_mark 24 = .ok (.ifCond .ne 6, 3) := by decide +kernel
theorem dX12_mark_27 : decode cX12_mark 27 = .ok (.ldc 121, 2) := by decide +kernel
theorem dX12_mark_29 : decode cX12_mark 29 = .ok (.ireturn, 1) := by decide +kernel
theorem dX12_mark_30 : decode cX12_mark 30 = .ok (.aload_n 0, 1) := by decide +kernel
theorem dX12_mark_31 : decode cX12_mark 31 = .ok (.getfield 155, 3) := by decide +kernel
theorem dX12_mark_34 : decode cX12_mark 34 = .ok (.iload_n 1, 1) := by decide +kernel
theorem dX12_mark_35 : decode cX12_mark 35 = .ok (.ishr, 1) := by decide +kernel
theorem dX12_mark_36 : decode cX12_mark 36 = .ok (.iconst 1, 1) := by decide +kernel
theorem dX12_mark_37 : decode cX12_mark 37 = .ok (.iand, 1) := by decide +kernel
theorem dX12_mark_38 : decode cX12_mark 38 = .ok (.iload_n 2, 1) := by decide +kernel
theorem dX12_mark_39 : decode cX12_mark 39 = .ok (.if_icmp .ne 7, 3) := by decide +kernel
theorem dX12_mark_42 : decode cX12_mark 42 = .ok (.iconst 1, 1) := by decide +kernel
theorem dX12_mark_43 : decode cX12_mark 43 = .ok (.goto 4, 3) := by decide +kernel
theorem dX12_mark_46 : decode cX12_mark 46 = .ok (.iconst 0, 1) := by decide +kernel
theorem dX12_mark_47 : decode cX12_mark 47 = .ok (.istore_n 3, 1) := by decide +kernel
theorem dX12_mark_48 : decode cX12_mark 48 = .ok (.aload_n 0, 1) := by decide +kernel
theorem dX12_mark_49 : decode cX12_mark 49 = .ok (.iload_n 2, 1) := by decide +kernel
theorem dX12_mark_50 : decode cX12_mark 50 = .ok (.iconst 1, 1) := by decide +kernel
theorem dX12_mark_51 : decode cX12_mark 51 = .ok (.if_icmp .ne 14, 3) := by decide +kernel
theorem dX12_mark_54 : decode cX12_mark 54 = .ok (.aload_n 0, 1) := by decide +kernel
theorem dX12_mark_55 : decode cX12_mark 55 = .ok (.getfield 155, 3) := by decide +kernel
theorem dX12_mark_58 : decode cX12_mark 58 = .ok (.iconst 1, 1) := by decide +kernel
theorem dX12_mark_59 : decode cX12_mark 59 = .ok (.iload_n 1, 1) := by decide +kernel
theorem dX12_mark_60 : decode cX12_mark 60 = .ok (.ishl, 1) := by decide +kernel
theorem dX12_mark_61 : decode cX12_mark 61 = .ok (.ior, 1) := by decide +kernel
theorem dX12_mark_62 : decode cX12_mark 62 = .ok (.goto 13, 3) := by decide +kernel
theorem dX12_mark_65 : decode cX12_mark 65 = .ok (.aload_n 0, 1) := by decide +kernel
theorem dX12_mark_66 : decode cX12_mark 66 = .ok (.getfield 155, 3) := by decide +kernel
theorem dX12_mark_69 : decode cX12_mark 69 = .ok (.iconst 1, 1) := by decide +kernel
theorem dX12_mark_70 : decode cX12_mark 70 = .ok (.iload_n 1, 1) := by decide +kernel
theorem dX12_mark_71 : decode cX12_mark 71 = .ok (.ishl, 1) := by decide +kernel
theorem dX12_mark_72 : decode cX12_mark 72 = .ok (.iconst (-1), 1) := by decide +kernel
theorem dX12_mark_73 : decode cX12_mark 73 = .ok (.ixor, 1) := by decide +kernel
theorem dX12_mark_74 : decode cX12_mark 74 = .ok (.iand, 1) := by decide +kernel
theorem dX12_mark_75 : decode cX12_mark 75 = .ok (.putfield 155, 3) := by decide +kernel
theorem dX12_mark_78 : decode cX12_mark 78 = .ok (.iload_n 3, 1) := by decide +kernel
theorem dX12_mark_79 : decode cX12_mark 79 = .ok (.ifCond .eq 7, 3) := by decide +kernel
theorem dX12_mark_82 : decode cX12_mark 82 = .ok (.iconst 0, 1) := by decide +kernel
theorem dX12_mark_83 : decode cX12_mark 83 = .ok (.goto 4, 3) := by decide +kernel
theorem dX12_mark_86 : decode cX12_mark 86 = .ok (.iconst 1, 1) := by decide +kernel
theorem dX12_mark_87 : decode cX12_mark 87 = .ok (.ireturn, 1) := by decide +kernel
theorem kd_X12_mark : aKd m_X12_mark 2 := ⟨wd_18_8, wd_1_5, ⟨by decide +kernel, by decide +kernel, by decide +kernel⟩⟩
set_option maxRecDepth 100000 in
set_option maxHeartbeats 4000000 in
theorem l_X12_mark_27   (σ : aSt) (o : Int32 × aSt) (h : f_X12_mark_27   σ = some o) : AW true m_X12_mark 27 [] [] σ 0 0 (some (.int o.1)) o.2 := by
  unfold f_X12_mark_27 at h
  refine w_ldc (v := (-1000001)) dX12_mark_27 wd_10_21 ?_
  obtain rfl := Option.some.inj h
  exact w_ireturn dX12_mark_29 rfl (Nat.le_of_ble_eq_true rfl) (Nat.le_of_ble_eq_true rfl)
set_option maxRecDepth 100000 in
set_option maxHeartbeats 4000000 in
theorem l_X12_mark_87  (t0 : Int32) (σ : aSt) (o : Int32 × aSt) (h : f_X12_mark_87  t0 σ = some o) : AW true m_X12_mark 87 [] [.int (t0)] σ 0 0 (some (.int o.1)) o.2 := by
  unfold f_X12_mark_87 at h
  obtain rfl := Option.some.inj h
  exact w_ireturn dX12_mark_87 rfl (Nat.le_of_ble_eq_true rfl) (Nat.le_of_ble_eq_true rfl)
set_option maxRecDepth 100000 in
set_option maxHeartbeats 4000000 in
theorem l_X12_mark_75  (x3 : Int32) (t1 : Int32) (σ : aSt) (o : Int32 × aSt) (h : f_X12_mark_75  x3 t1 σ = some o) : AW true m_X12_mark 75 [(3, Value.int (x3))] [.int (t1), va_rf (some (57))] σ 0 0 (some (.int o.1)) o.2 := by
  unfold f_X12_mark_75 at h
  refine w_putI dX12_mark_75 fl_RX12_155 (Or.inl rfl) rfl ⟨rfl, Or.inr ⟨rfl, by decide⟩⟩ ?_
  refine w_iload_n 0 dX12_mark_78 rfl rfl ?_
  refine w_if_eq 86 dX12_mark_79 (by decide) (fun c8 => ?_) (fun c8 => ?_)
  · replace h := e_t c8 h
    refine w_iconst (v := 1) dX12_mark_86 (by decide) ?_
    refine w_sub [] rfl ?_
    exact l_X12_mark_87 _ _ _ h
  · replace h := e_f c8 h
    refine w_iconst (v := 0) dX12_mark_82 (by decide) ?_
    refine w_goto 87 dX12_mark_83 (by decide) ?_
    refine w_sub [] rfl ?_
    exact l_X12_mark_87 _ _ _ h
set_option maxRecDepth 100000 in
set_option maxHeartbeats 4000000 in
theorem l_X12_mark_47  (x1 : Int32) (x2 : Int32) (t0 : Int32) (σ : aSt) (o : Int32 × aSt) (h : f_X12_mark_47  x1 x2 t0 σ = some o) : AW true m_X12_mark 47 [(0, va_rf (some (57))), (1, Value.int (x1)), (2, Value.int (x2))] [.int (t0)] σ 0 0 (some (.int o.1)) o.2 := by
  unfold f_X12_mark_47 at h
  refine w_istore_n dX12_mark_47 rfl (by decide) rfl ?_
  refine w_aload_n 1 ((some (57))) dX12_mark_48 rfl rfl ?_
  refine w_iload_n 3 dX12_mark_49 rfl rfl ?_
  refine w_iconst (v := 1) dX12_mark_50 (by decide) ?_
  refine w_icmp_ne 65 dX12_mark_51 (by decide) (fun c9 => ?_) (fun c9 => ?_)
  · replace h := e_f c9 h
    refine w_aload_n 1 ((some (57))) dX12_mark_65 rfl rfl ?_
    refine w_get dX12_mark_66 fl_RX12_155 ⟨rfl, Or.inr ⟨rfl, by decide⟩⟩ (aFv_i rfl) ?_
    refine w_iconst (v := 1) dX12_mark_69 (by decide) ?_
    refine w_iload_n 2 dX12_mark_70 rfl rfl ?_
    refine w_ishl dX12_mark_71 ?_
    refine w_iconst (v := (-1)) dX12_mark_72 (by decide) ?_
    refine w_ixor dX12_mark_73 ?_
    refine w_iand dX12_mark_74 ?_
    refine w_sub [0] rfl ?_
    exact l_X12_mark_75 _ _ _ _ h
  · replace h := e_t c9 h
    refine w_aload_n 1 ((some (57))) dX12_mark_54 rfl rfl ?_
    refine w_get dX12_mark_55 fl_RX12_155 ⟨rfl, Or.inr ⟨rfl, by decide⟩⟩ (aFv_i rfl) ?_
    refine w_iconst (v := 1) dX12_mark_58 (by decide) ?_
    refine w_iload_n 2 dX12_mark_59 rfl rfl ?_
    refine w_ishl dX12_mark_60 ?_
    refine w_ior dX12_mark_61 ?_
    refine w_goto 75 dX12_mark_62 (by decide) ?_
    refine w_sub [0] rfl ?_
    exact l_X12_mark_75 _ _ _ _ h
set_option maxRecDepth 100000 in
set_option maxHeartbeats 4000000 in
theorem c_X12_mark (p1 : Int32) (p2 : Int32) (σ : aSt) (o : Int32 × aSt) (h : f_X12_mark p1 p2 σ = some o) : AM true m_X12_mark [va_rf (some (57)), .int (p1), .int (p2)] σ (some (.int o.1)) o.2 := by
  refine AM_of2 (lv := [(0, va_rf (some (57))), (1, Value.int (p1)), (2, Value.int (p2))]) (by decide +kernel) rfl (Nat.le_of_ble_eq_true rfl) ?_
  unfold f_X12_mark at h
  refine w_aload_n 0 ((some (57))) dX12_mark_0 rfl rfl ?_
  refine w_iconst (v := 0) dX12_mark_1 (by decide) ?_
  refine w_putI dX12_mark_2 fl_RX12_102 (Or.inl rfl) rfl ⟨rfl, Or.inr ⟨rfl, by decide⟩⟩ ?_
  refine w_iload_n 1 dX12_mark_5 rfl rfl ?_
  refine w_i2l dX12_mark_6 ?_
  refine w_lconst (v := 0) dX12_mark_7 (by decide) ?_
  refine w_ldc2 (v := 19) dX12_mark_8 wd_15_9 ?_
  replace h := e_bind h; obtain ⟨q1, e2, h⟩ := h
  refine w_callS1 (M2 := m_X12_in) (av := [.long (p1.toInt64), .long (0), .long (19)]) (c_X12_in _ _ _ _ _ e2) dX12_mark_11 kd_X12_in wd_11_3 wd_11_4 rfl rfl ⟨Nat.le_of_ble_eq_true rfl, Nat.le_of_ble_eq_true rfl, Nat.le_of_ble_eq_true rfl, Nat.le_of_ble_eq_true rfl⟩ (Nat.le_of_ble_eq_true rfl) ?_
  refine w_if_eq 27 dX12_mark_14 (by decide) (fun c3 => ?_) (fun c3 => ?_)
  · replace h := e_t c3 h
    refine w_sub [] rfl ?_
    exact l_X12_mark_27 _ _ h
  · replace h := e_f c3 h
    refine w_iload_n 2 dX12_mark_17 rfl rfl ?_
    refine w_i2l dX12_mark_18 ?_
    refine w_lconst (v := 0) dX12_mark_19 (by decide) ?_
    refine w_lconst (v := 1) dX12_mark_20 (by decide) ?_
    replace h := e_bind h; obtain ⟨q4, e5, h⟩ := h
    refine w_callS1 (M2 := m_X12_in) (av := [.long (p2.toInt64), .long (0), .long (1)]) (c_X12_in _ _ _ _ _ e5) dX12_mark_21 kd_X12_in wd_11_3 wd_11_4 rfl rfl ⟨Nat.le_of_ble_eq_true rfl, Nat.le_of_ble_eq_true rfl, Nat.le_of_ble_eq_true rfl, Nat.le_of_ble_eq_true rfl⟩ (Nat.le_of_ble_eq_true rfl) ?_
    refine w_if_ne 30 dX12_mark_24 (by decide) (fun c6 => ?_) (fun c6 => ?_)
    · replace h := e_f c6 h
      refine w_aload_n 0 ((some (57))) dX12_mark_30 rfl rfl ?_
      refine w_get dX12_mark_31 fl_RX12_155 ⟨rfl, Or.inr ⟨rfl, by decide⟩⟩ (aFv_i rfl) ?_
      refine w_iload_n 1 dX12_mark_34 rfl rfl ?_
      refine w_ishr dX12_mark_35 ?_
      refine w_iconst (v := 1) dX12_mark_36 (by decide) ?_
      refine w_iand dX12_mark_37 ?_
      refine w_iload_n 2 dX12_mark_38 rfl rfl ?_
      refine w_icmp_ne 46 dX12_mark_39 (by decide) (fun c7 => ?_) (fun c7 => ?_)
      · replace h := e_f c7 h
        refine w_iconst (v := 0) dX12_mark_46 (by decide) ?_
        exact l_X12_mark_47 _ _ _ _ _ h
      · replace h := e_t c7 h
        refine w_iconst (v := 1) dX12_mark_42 (by decide) ?_
        refine w_goto 47 dX12_mark_43 (by decide) ?_
        exact l_X12_mark_47 _ _ _ _ _ h
    · replace h := e_t c6 h
      refine w_sub [] rfl ?_
      exact l_X12_mark_27 _ _ h
theorem dX12_isAhead_0 : decode cX12_isAhead 0 = .ok (.aload_n 0, 1) := by decide +kernel
theorem dX12_isAhead_1 : decode cX12_isAhead 1 = .ok (.iload_n 1, 1) := by decide +kernel
theorem dX12_isAhead_2 : decode cX12_isAhead 2 = .ok (.iload_n 2, 1) := by decide +kernel
theorem dX12_isAhead_3 : decode cX12_isAhead 3 = .ok (.invokevirtual 143, 3) := by decide +kernel
theorem dX12_isAhead_6 : decode cX12_isAhead 6 = .ok (.ifCond .eq 16, 3) := by decide +kernel
theorem dX12_isAhead_9 : decode cX12_isAhead 9 = .ok (.iload_n 3, 1) := by decide +kernel
theorem dX12_isAhead_10 : decode cX12_isAhead 10 = .ok (.ifCond .eq 8, 3) := by decide +kernel
theorem dX12_isAhead_13 : decode cX12_isAhead 13 = .ok (.iload_n 1, 1) := by decide +kernel
theorem dX12_isAhead_14 : decode cX12_isAhead 14 = .ok (.iload_n 2, 1) := by decide +kernel
theorem dX12_isAhead_15 : decode cX12_isAhead 15 = .ok (.if_icmp .ge 7, 3) := by decide +kernel
theorem dX12_isAhead_18 : decode cX12_isAhead 18 = .ok (.iconst 1, 1) := by decide +kernel
theorem dX12_isAhead_19 : decode cX12_isAhead 19 = .ok (.goto 4, 3) := by decide +kernel
theorem dX12_isAhead_22 : decode cX12_isAhead 22 = .ok (.iconst 0, 1) := by decide +kernel
theorem dX12_isAhead_23 : decode cX12_isAhead 23 = .ok (.ireturn, 1) := by decide +kernel
theorem kd_X12_isAhead : aKd m_X12_isAhead 3 := ⟨wd_21_5, wd_1_5, ⟨by decide +kernel, by decide +kernel, by decide +kernel⟩⟩
set_option maxRecDepth 100000 in
set_option maxHeartbeats 4000000 in
theorem l_X12_isAhead_23  (t0 : Int32) (σ : aSt) (o : Int32 × aSt) (h : f_X12_isAhead_23  t0 σ = some o) : AW true m_X12_isAhead 23 [] [.int (t0)] σ 0 0 (some (.int o.1)) o.2 := by
  unfold f_X12_isAhead_23 at h
  replace h := e_grd h; obtain ⟨g6, h⟩ := h
  obtain rfl := Option.some.inj h
  exact w_zreturn dX12_isAhead_23 rfl (e_nz g6) (Nat.le_of_ble_eq_true rfl) (Nat.le_of_ble_eq_true rfl)
set_option maxRecDepth 100000 in
set_option maxHeartbeats 4000000 in
theorem l_X12_isAhead_18   (σ : aSt) (o : Int32 × aSt) (h : f_X12_isAhead_18   σ = some o) : AW true m_X12_isAhead 18 [] [] σ 0 0 (some (.int o.1)) o.2 := by
  unfold f_X12_isAhead_18 at h
  refine w_iconst (v := 1) dX12_isAhead_18 (by decide) ?_
  refine w_goto 23 dX12_isAhead_19 (by decide) ?_
  exact l_X12_isAhead_23 _ _ _ h
set_option maxRecDepth 100000 in
set_option maxHeartbeats 4000000 in
theorem l_X12_isAhead_22   (σ : aSt) (o : Int32 × aSt) (h : f_X12_isAhead_22   σ = some o) : AW true m_X12_isAhead 22 [] [] σ 0 0 (some (.int o.1)) o.2 := by
  unfold f_X12_isAhead_22 at h
  refine w_iconst (v := 0) dX12_isAhead_22 (by decide) ?_
  exact l_X12_isAhead_23 _ _ _ h
set_option maxRecDepth 100000 in
set_option maxHeartbeats 4000000 in
theorem c_X12_isAhead (p1 : Int32) (p2 : Int32) (p3 : Int32) (σ : aSt) (o : Int32 × aSt) (h : f_X12_isAhead p1 p2 p3 σ = some o) : AM true m_X12_isAhead [va_rf (some (57)), .int (p1), .int (p2), .int (p3)] σ (some (.int o.1)) o.2 := by
  refine AM_of2 (lv := [(0, va_rf (some (57))), (1, Value.int (p1)), (2, Value.int (p2)), (3, Value.int (p3))]) (by decide +kernel) rfl (Nat.le_of_ble_eq_true rfl) ?_
  unfold f_X12_isAhead at h
  refine w_aload_n 0 ((some (57))) dX12_isAhead_0 rfl rfl ?_
  refine w_iload_n 1 dX12_isAhead_1 rfl rfl ?_
  refine w_iload_n 2 dX12_isAhead_2 rfl rfl ?_
  replace h := e_bind h; obtain ⟨q1, e2, h⟩ := h
  refine w_callV1 (M2 := m_X12_isBefore) (av := [.int (p1), .int (p2)]) (ci := 12) (c_X12_isBefore _ _ _ _ e2) dX12_isAhead_3 kd_X12_isBefore wd_15_19 wd_15_20 wd_15_21 rfl rfl ⟨rfl, Or.inr ⟨rfl, by decide⟩⟩ rfl ⟨Nat.le_of_ble_eq_true rfl, Nat.le_of_ble_eq_true rfl, Nat.le_of_ble_eq_true rfl, Nat.le_of_ble_eq_true rfl⟩ (Nat.le_of_ble_eq_true rfl) ?_
  refine w_if_eq 22 dX12_isAhead_6 (by decide) (fun c3 => ?_) (fun c3 => ?_)
  · replace h := e_t c3 h
    refine w_sub [] rfl ?_
    exact l_X12_isAhead_22 _ _ h
  · replace h := e_f c3 h
    refine w_iload_n 3 dX12_isAhead_9 rfl rfl ?_
    refine w_if_eq 18 dX12_isAhead_10 (by decide) (fun c4 => ?_) (fun c4 => ?_)
    · replace h := e_t c4 h
      refine w_sub [] rfl ?_
      exact l_X12_isAhead_18 _ _ h
    · replace h := e_f c4 h
      refine w_iload_n 1 dX12_isAhead_13 rfl rfl ?_
      refine w_iload_n 2 dX12_isAhead_14 rfl rfl ?_
      refine w_icmp_ge 22 dX12_isAhead_15 (by decide) (fun c5 => ?_) (fun c5 => ?_)
      · replace h := e_t c5 h
        refine w_sub [] rfl ?_
        exact l_X12_isAhead_22 _ _ h
      · replace h := e_f c5 h
        refine w_sub [] rfl ?_
        exact l_X12_isAhead_18 _ _ h
theorem dX12_bits_0 : decode cX12_bits 0 = .ok (.iconst 0, 1) := by decide +kernel
theorem dX12_bits_1 : decode cX12_bits 1 = .ok (.istore_n 1, 1) := by decide +kernel
theorem dX12_bits_2 : decode cX12_bits 2 = .ok (.iconst 0, 1) := by decide +kernel
theorem dX12_bits_3 : decode cX12_bits 3 = .ok (.istore_n 2, 1) := by decide +kernel
theorem dX12_bits_4 : decode cX12_bits 4 = .ok (.iload_n 2, 1) := by decide +kernel
theorem dX12_bits_5 : decode cX12_bits 5 = .ok (.bipush 20, 2) := by decide +kernel
theorem dX12_bits_7 : decode cX12_bits 7 = .ok (.if_icmp .ge 17, 3) := by decide +kernel
theorem dX12_bits_10 : decode cX12_bits 10 = .ok (.iload_n 1, 1) := by decide +kernel
theorem dX12_bits_11 : decode cX12_bits 11 = .ok (.iload_n 0, 1) := by decide +kernel
theorem dX12_bits_12 : decode cX12_bits 12 = .ok (.iload_n 2, 1) := by decide +kernel
theorem dX12_bits_13 : decode cX12_bits 13 = .ok (.ishr, 1) := by decide +kernel
theorem dX12_bits_14 : decode cX12_bits 14 = .ok (.iconst 1, 1) := by decide +kernel
theorem dX12_bits_15 : decode cX12_bits 15 = .ok (.iand, 1) := by decide +kernel
theorem dX12_bits_16 : decode cX12_bits 16 = .ok (.iadd, 1) := by decide +kernel
theorem dX12_bits_17 : decode cX12_bits 17 = .ok (.istore_n 1, 1) := by decide +kernel
theorem dX12_bits_18 : decode cX12_bits 18 = .ok (.iinc 2 1, 3) := by decide +kernel
theorem dX12_bits_21 : decode cX12_bits 21 = .ok (.goto (-17), 3) := by decide +kernel
theorem dX12_bits_24 : decode cX12_bits 24 = .ok (.iload_n 1, 1) := by decide +kernel
theorem dX12_bits_25 : decode cX12_bits 25 = .ok (.ireturn, 1) := by decide +kernel
theorem kd_X12_bits : aKd m_X12_bits 1 := ⟨wd_21_8, wd_1_5, ⟨by decide +kernel, by decide +kernel, by decide +kernel⟩⟩
set_option maxRecDepth 100000 in
set_option maxHeartbeats 4000000 in
theorem l_X12_bits_4_b (rec4 : Int32 → Int32 → Int32 → aSt → Option (Int32 × aSt)) (hrec4 : ∀ (x0 : Int32) (x1 : Int32) (x2 : Int32) (σ : aSt) (o : Int32 × aSt), rec4 x0 x1 x2 σ = some o → AW true m_X12_bits 4 [(0, Value.int (x0)), (1, Value.int (x1)), (2, Value.int (x2))] [] σ 0 0 (some (.int o.1)) o.2) (x0 : Int32) (x1 : Int32) (x2 : Int32) (σ : aSt) (o : Int32 × aSt) (h : f_X12_bits_4_b rec4 x0 x1 x2 σ = some o) : AW true m_X12_bits 4 [(0, Value.int (x0)), (1, Value.int (x1)), (2, Value.int (x2))] [] σ 0 0 (some (.int o.1)) o.2 := by
  unfold f_X12_bits_4_b at h
  refine w_iload_n 2 dX12_bits_4 rfl rfl ?_
  refine w_bipush (v := 20) dX12_bits_5 (by decide) ?_
  refine w_icmp_ge 24 dX12_bits_7 (by decide) (fun c1 => ?_) (fun c1 => ?_)
  · replace h := e_t c1 h
    refine w_iload_n 1 dX12_bits_24 rfl rfl ?_
    obtain rfl := Option.some.inj h
    exact w_ireturn dX12_bits_25 rfl (Nat.le_of_ble_eq_true rfl) (Nat.le_of_ble_eq_true rfl)
  · replace h := e_f c1 h
    refine w_iload_n 1 dX12_bits_10 rfl rfl ?_
    refine w_iload_n 0 dX12_bits_11 rfl rfl ?_
    refine w_iload_n 2 dX12_bits_12 rfl rfl ?_
    refine w_ishr dX12_bits_13 ?_
    refine w_iconst (v := 1) dX12_bits_14 (by decide) ?_
    refine w_iand dX12_bits_15 ?_
    refine w_iadd dX12_bits_16 ?_
    refine w_istore_n dX12_bits_17 rfl (by decide) rfl ?_
    refine w_iinc (q := 2) (v := x2 + 1) dX12_bits_18 rfl rfl (by decide) rfl ?_
    refine w_goto 4 dX12_bits_21 (by decide) ?_
    refine w_sub [2, 1, 0] rfl ?_
    exact hrec4 _ _ _ _ _ h
theorem l_X12_bits_4  : ∀ (n : Nat) (x0 : Int32) (x1 : Int32) (x2 : Int32) (σ : aSt) (o : Int32 × aSt), f_X12_bits_4  n x0 x1 x2 σ = some o → AW true m_X12_bits 4 [(0, Value.int (x0)), (1, Value.int (x1)), (2, Value.int (x2))] [] σ 0 0 (some (.int o.1)) o.2
  | 0 => fun x0 x1 x2 σ o h => by cases h
  | n + 1 => fun x0 x1 x2 σ o h => l_X12_bits_4_b (f_X12_bits_4  n) (l_X12_bits_4  n) x0 x1 x2 σ o h
set_option maxRecDepth 100000 in
set_option maxHeartbeats 4000000 in
theorem c_X12_bits (p0 : Int32) (σ : aSt) (o : Int32 × aSt) (h : f_X12_bits p0 σ = some o) : AM true m_X12_bits [.int (p0)] σ (some (.int o.1)) o.2 := by
  refine AM_of2 (lv := [(0, Value.int (p0))]) (by decide +kernel) rfl (Nat.le_of_ble_eq_true rfl) ?_
  unfold f_X12_bits at h
  refine w_iconst (v := 0) dX12_bits_0 (by decide) ?_
  refine w_istore_n dX12_bits_1 rfl (by decide) rfl ?_
  refine w_iconst (v := 0) dX12_bits_2 (by decide) ?_
  refine w_istore_n dX12_bits_3 rfl (by decide) rfl ?_
  refine w_sub [2, 1, 0] rfl ?_
  exact l_X12_bits_4 aN _ _ _ _ _ h
theorem dX12_faded_0 : decode cX12_faded 0 = .ok (.iload_n 2, 1) := by decide +kernel
theorem dX12_faded_1 : decode cX12_faded 1 = .ok (.aload_n 0, 1) := by decide +kernel
theorem dX12_faded_2 : decode cX12_faded 2 = .ok (.getfield 47, 3) := by decide +kernel
theorem dX12_faded_5 : decode cX12_faded 5 = .ok (.idiv, 1) := by decide +kernel
theorem dX12_faded_6 : decode cX12_faded 6 = .ok (.istore_n 3, 1) := by decide +kernel
theorem dX12_faded_7 : decode cX12_faded 7 = .ok (.iload_n 1, 1) := by decide +kernel
theorem dX12_faded_8 : decode cX12_faded 8 = .ok (.istore 4, 2) := by decide +kernel
theorem dX12_faded_10 : decode cX12_faded 10 = .ok (.iconst 0, 1) := by decide +kernel
theorem dX12_faded_11 : decode cX12_faded 11 = .ok (.istore 5, 2) := by decide +kernel
theorem dX12_faded_13 : decode cX12_faded 13 = .ok (.iload 5, 2) := by decide +kernel
theorem dX12_faded_15 : decode cX12_faded 15 = .ok (.iload_n 3, 1) := by decide +kernel
theorem dX12_faded_16 : decode cX12_faded 16 = .ok (.if_icmp .ge 25, 3) := by decide +kernel
theorem dX12_faded_19 : decode cX12_faded 19 = .ok (.iload 5, 2) := by decide +kernel
theorem dX12_faded_21 : decode cX12_faded 21 = .ok (.bipush 40, 2) := by decide +kernel
theorem dX12_faded_23 : decode cX12_faded 23 = .ok (.if_icmp .ge 18, 3) := by decide +kernel
theorem dX12_faded_26 : decode cX12_faded 26 = .ok (.iload 4, 2) := by decide +kernel
theorem dX12_faded_28 : decode cX12_faded 28 = .ok (.iload 4, 2) := by decide +kernel
theorem dX12_faded_30 : decode cX12_faded 30 = .ok (.iconst 4, 1) := by decide +kernel
theorem dX12_faded_31 : decode cX12_faded 31 = .ok (.idiv, 1) := by decide +kernel
theorem dX12_faded_32 : decode cX12_faded 32 = .ok (.isub, 1) := by decide +kernel
theorem dX12_faded_33 : decode cX12_faded 33 = .ok (.istore 4, 2) := by decide +kernel
theorem dX12_faded_35 : decode cX12_faded 35 = .ok (.iinc 5 1, 3) := by decide +kernel
theorem dX12_faded_38 : decode cX12_faded 38 = .ok (.goto (-25), 3) := by decide +kernel
theorem dX12_faded_41 : decode cX12_faded 41 = .ok (.iload 4, 2) := by decide +kernel
theorem dX12_faded_43 : decode cX12_faded 43 = .ok (.ireturn, 1) := by decide +kernel
theorem kd_X12_faded : aKd m_X12_faded 2 := ⟨wd_21_16, wd_1_5, ⟨by decide +kernel, by decide +kernel, by decide +kernel⟩⟩
set_option maxRecDepth 100000 in
set_option maxHeartbeats 4000000 in
theorem l_X12_faded_41  (x4 : Int32) (σ : aSt) (o : Int32 × aSt) (h : f_X12_faded_41  x4 σ = some o) : AW true m_X12_faded 41 [(4, Value.int (x4))] [] σ 0 0 (some (.int o.1)) o.2 := by
  unfold f_X12_faded_41 at h
  refine w_iload 0 dX12_faded_41 rfl ?_
  obtain rfl := Option.some.inj h
  exact w_ireturn dX12_faded_43 rfl (Nat.le_of_ble_eq_true rfl) (Nat.le_of_ble_eq_true rfl)
set_option maxRecDepth 100000 in
set_option maxHeartbeats 4000000 in
theorem l_X12_faded_13_b (rec13 : Int32 → Int32 → Int32 → aSt → Option (Int32 × aSt)) (hrec13 : ∀ (x3 : Int32) (x4 : Int32) (x5 : Int32) (σ : aSt) (o : Int32 × aSt), rec13 x3 x4 x5 σ = some o → AW true m_X12_faded 13 [(3, Value.int (x3)), (4, Value.int (x4)), (5, Value.int (x5))] [] σ 0 0 (some (.int o.1)) o.2) (x3 : Int32) (x4 : Int32) (x5 : Int32) (σ : aSt) (o : Int32 × aSt) (h : f_X12_faded_13_b rec13 x3 x4 x5 σ = some o) : AW true m_X12_faded 13 [(3, Value.int (x3)), (4, Value.int (x4)), (5, Value.int (x5))] [] σ 0 0 (some (.int o.1)) o.2 := by
  unfold f_X12_faded_13_b at h
  refine w_iload 2 dX12_faded_13 rfl ?_
  refine w_iload_n 0 dX12_faded_15 rfl rfl ?_
  refine w_icmp_ge 41 dX12_faded_16 (by decide) (fun c2 => ?_) (fun c2 => ?_)
  · replace h := e_t c2 h
    refine w_sub [1] rfl ?_
    exact l_X12_faded_41 _ _ _ h
  · replace h := e_f c2 h
    refine w_iload 2 dX12_faded_19 rfl ?_
    refine w_bipush (v := 40) dX12_faded_21 (by decide) ?_
    refine w_icmp_ge 41 dX12_faded_23 (by decide) (fun c3 => ?_) (fun c3 => ?_)
    · replace h := e_t c3 h
      refine w_sub [1] rfl ?_
      exact l_X12_faded_41 _ _ _ h
    · replace h := e_f c3 h
      refine w_iload 1 dX12_faded_26 rfl ?_
      refine w_iload 1 dX12_faded_28 rfl ?_
      refine w_iconst (v := 4) dX12_faded_30 (by decide) ?_
      refine w_idiv dX12_faded_31 (by decide) ?_
      refine w_isub dX12_faded_32 ?_
      refine w_istore dX12_faded_33 (by decide) rfl ?_
      refine w_iinc (q := 2) (v := x5 + 1) dX12_faded_35 rfl rfl (by decide) rfl ?_
      refine w_goto 13 dX12_faded_38 (by decide) ?_
      refine w_sub [2, 1, 0] rfl ?_
      exact hrec13 _ _ _ _ _ h
theorem l_X12_faded_13  : ∀ (n : Nat) (x3 : Int32) (x4 : Int32) (x5 : Int32) (σ : aSt) (o : Int32 × aSt), f_X12_faded_13  n x3 x4 x5 σ = some o → AW true m_X12_faded 13 [(3, Value.int (x3)), (4, Value.int (x4)), (5, Value.int (x5))] [] σ 0 0 (some (.int o.1)) o.2
  | 0 => fun x3 x4 x5 σ o h => by cases h
  | n + 1 => fun x3 x4 x5 σ o h => l_X12_faded_13_b (f_X12_faded_13  n) (l_X12_faded_13  n) x3 x4 x5 σ o h
set_option maxRecDepth 100000 in
set_option maxHeartbeats 4000000 in
theorem c_X12_faded (p1 : Int32) (p2 : Int32) (σ : aSt) (o : Int32 × aSt) (h : f_X12_faded p1 p2 σ = some o) : AM true m_X12_faded [va_rf (some (57)), .int (p1), .int (p2)] σ (some (.int o.1)) o.2 := by
  refine AM_of2 (lv := [(0, va_rf (some (57))), (1, Value.int (p1)), (2, Value.int (p2))]) (by decide +kernel) rfl (Nat.le_of_ble_eq_true rfl) ?_
  unfold f_X12_faded at h
  refine w_iload_n 2 dX12_faded_0 rfl rfl ?_
  refine w_aload_n 0 ((some (57))) dX12_faded_1 rfl rfl ?_
  refine w_get dX12_faded_2 fl_RX12_47 ⟨rfl, Or.inr ⟨rfl, by decide⟩⟩ (aFv_i rfl) ?_
  replace h := e_grd h; obtain ⟨g1, h⟩ := h
  refine w_idiv dX12_faded_5 g1 ?_
  refine w_istore_n dX12_faded_6 rfl (by decide) rfl ?_
  refine w_iload_n 2 dX12_faded_7 rfl rfl ?_
  refine w_istore dX12_faded_8 (by decide) rfl ?_
  refine w_iconst (v := 0) dX12_faded_10 (by decide) ?_
  refine w_istore dX12_faded_11 (by decide) rfl ?_
  refine w_sub [2, 1, 0] rfl ?_
  exact l_X12_faded_13 aN _ _ _ _ _ h
theorem dX12_profileOf_0 : decode cX12_profileOf 0 = .ok (.iconst 0, 1) := by decide +kernel
theorem dX12_profileOf_1 : decode cX12_profileOf 1 = .ok (.istore_n 3, 1) := by decide +kernel
theorem dX12_profileOf_2 : decode cX12_profileOf 2 = .ok (.ldc 126, 2) := by decide +kernel
theorem dX12_profileOf_4 : decode cX12_profileOf 4 = .ok (.istore 4, 2) := by decide +kernel
theorem dX12_profileOf_6 : decode cX12_profileOf 6 = .ok (.iconst 0, 1) := by decide +kernel
theorem dX12_profileOf_7 : decode cX12_profileOf 7 = .ok (.istore 5, 2) := by decide +kernel
theorem dX12_profileOf_9 : decode cX12_profileOf 9 = .ok (.iload 5, 2) := by decide +kernel
theorem dX12_profileOf_11 : decode cX12_profileOf 11 = .ok (.aload_n 0, 1) := by decide +kernel
theorem dX12_profileOf_12 : decode cX12_profileOf 12 = .ok (.getfield 127, 3) := by decide +kernel
theorem dX12_profileOf_15 : decode cX12_profileOf 15 = .ok (.if_icmp .ge 95, 3) := by decide +kernel
theorem dX12_profileOf_18 : decode cX12_profileOf 18 = .ok (.aload_n 0, 1) := by decide +kernel
theorem dX12_profileOf_19 : decode cX12_profileOf 19 = .ok (.getfield 40, 3) := by decide +kernel
theorem dX12_profileOf_22 : decode cX12_profileOf 22 = .ok (.iload 5, 2) := by decide +kernel
theorem dX12_profileOf_24 : decode cX12_profileOf 24 = .ok (.iaload, 1) := by decide +kernel
theorem dX12_profileOf_25 : decode cX12_profileOf 25 = .ok (.istore 6, 2) := by decide +kernel
theorem dX12_profileOf_27 : decode cX12_profileOf 27 = .ok (.aload_n 0, 1) := by decide +kernel
theorem dX12_profileOf_28 : decode cX12_profileOf 28 = .ok (.iload 6, 2) := by decide +kernel
theorem dX12_profileOf_30 : decode cX12_profileOf 30 = .ok (.iload_n 1, 1) := by decide +kernel
theorem dX12_profileOf_31 : decode cX12_profileOf 31 = .ok (.iload_n 2, 1) := by decide +kernel
theorem dX12_profileOf_32 : decode cX12_profileOf 32 = .ok (.invokevirtual 158, 3) := by decide +kernel
theorem dX12_profileOf_35 : decode cX12_profileOf 35 = .ok (.ifCond .eq 69, 3) := by decide +kernel
theorem dX12_profileOf_38 : decode cX12_profileOf 38 = .ok (.aload_n 0, 1) := by decide +kernel
theorem dX12_profileOf_39 : decode cX12_profileOf 39 = .ok (.getfield 25, 3) := by decide +kernel
theorem dX12_profileOf_42 : decode cX12_profileOf 42 = .ok (.iload 6, 2) := by decide +kernel
theorem dX12_profileOf_44 : decode cX12_profileOf 44 = .ok (.iaload, 1) := by decide +kernel
theorem dX12_profileOf_45 : decode cX12_profileOf 45 = .ok (.aload_n 0, 1) := by decide +kernel
theorem dX12_profileOf_46 : decode cX12_profileOf 46 = .ok (.getfield 25, 3) := by decide +kernel
theorem dX12_profileOf_49 : decode cX12_profileOf 49 = .ok (.iload_n 1, 1) := by decide +kernel
theorem dX12_profileOf_50 : decode cX12_profileOf 50 = .ok (.iaload, 1) := by decide +kernel
theorem dX12_profileOf_51 : decode cX12_profileOf 51 = .ok (.if_icmp .ne 53, 3) := by decide +kernel
theorem dX12_profileOf_54 : decode cX12_profileOf 54 = .ok (.iload 4, 2) := by decide +kernel
theorem dX12_profileOf_56 : decode cX12_profileOf 56 = .ok (.ldc 126, 2) := by decide +kernel
theorem dX12_profileOf_58 : decode cX12_profileOf 58 = .ok (.if_icmp .ne 7, 3) := by decide +kernel
theorem dX12_profileOf_61 : decode cX12_profileOf 61 = .ok (.iload_n 3, 1) := by decide +kernel
theorem dX12_profileOf_62 : decode cX12_profileOf 62 = .ok (.goto 23, 3) := by decide +kernel
theorem dX12_profileOf_65 : decode cX12_profileOf 65 = .ok (.aload_n 0, 1) := by decide +kernel
theorem dX12_profileOf_66 : decode cX12_profileOf 66 = .ok (.iload_n 3, 1) := by decide +kernel
theorem dX12_profileOf_67 : decode cX12_profileOf 67 = .ok (.aload_n 0, 1) := by decide +kernel
theorem dX12_profileOf_68 : decode cX12_profileOf 68 = .ok (.getfield 22, 3) := by decide +kernel
theorem dX12_profileOf_71 : decode cX12_profileOf 71 = .ok (.iload 6, 2) := by decide +kernel
theorem dX12_profileOf_73 : decode cX12_profileOf 73 = .ok (.iaload, 1) := by decide +kernel
theorem dX12_profileOf_74 : decode cX12_profileOf 74 = .ok (.aload_n 0, 1) := by decide +kernel
theorem dX12_profileOf_75 : decode cX12_profileOf 75 = .ok (.getfield 22, 3) := by decide +kernel
theorem dX12_profileOf_78 : decode cX12_profileOf 78 = .ok (.iload 4, 2) := by decide +kernel
theorem dX12_profileOf_80 : decode cX12_profileOf 80 = .ok (.iaload, 1) := by decide +kernel
theorem dX12_profileOf_81 : decode cX12_profileOf 81 = .ok (.isub, 1) := by decide +kernel
theorem dX12_profileOf_82 : decode cX12_profileOf 82 = .ok (.invokevirtual 162, 3) := by decide +kernel
theorem dX12_profileOf_85 : decode cX12_profileOf 85 = .ok (.istore_n 3, 1) := by decide +kernel
theorem dX12_profileOf_86 : decode cX12_profileOf 86 = .ok (.iload_n 3, 1) := by decide +kernel
theorem dX12_profileOf_87 : decode cX12_profileOf 87 = .ok (.aload_n 0, 1) := by decide +kernel
theorem dX12_profileOf_88 : decode cX12_profileOf 88 = .ok (.getfield 31, 3) := by decide +kernel
theorem dX12_profileOf_91 : decode cX12_profileOf 91 = .ok (.iload 6, 2) := by decide +kernel
theorem dX12_profileOf_93 : decode cX12_profileOf 93 = .ok (.iaload, 1) := by decide +kernel
theorem dX12_profileOf_94 : decode cX12_profileOf 94 = .ok (.iload_n 3, 1) := by decide +kernel
theorem dX12_profileOf_95 : decode cX12_profileOf 95 = .ok (.isub, 1) := by decide +kernel
theorem dX12_profileOf_96 : decode cX12_profileOf 96 = .ok (.iconst 4, 1) := by decide +kernel
theorem dX12_profileOf_97 : decode cX12_profileOf 97 = .ok (.idiv, 1) := by decide +kernel
theorem dX12_profileOf_98 : decode cX12_profileOf 98 = .ok (.iadd, 1) := by decide +kernel
theorem dX12_profileOf_99 : decode cX12_profileOf 99 = .ok (.istore_n 3, 1) := by decide +kernel
theorem dX12_profileOf_100 : decode cX12_profileOf 100 = .ok (.iload 6, 2) := by decide +kernel
theorem dX12_profileOf_102 : decode cX12_profileOf 102 = .ok (.istore 4, 2) := by decide +kernel
theorem dX12_profileOf_104 : decode cX12_profileOf 104 = .ok (.iinc 5 1, 3) := by decide +kernel
theorem dX12_profileOf_107 : decode cX12_profileOf 107 = .ok (.goto (-98), 3) := by decide +kernel
theorem dX12_profileOf_110 : decode cX12_profileOf 110 = .ok (.iload 4, 2) := by decide +kernel
theorem dX12_profileOf_112 : decode cX12_profileOf 112 = .ok (.ldc 126, 2) := by decide +kernel
theorem dX12_profileOf_114 : decode cX12_profileOf 114 = .ok (.if_icmp .ne 7, 3) := by decide +kernel
theorem dX12_profileOf_117 : decode cX12_profileOf 117 = .ok (.iload_n 3, 1) := by decide +kernel
theorem dX12_profileOf_118 : decode cX12_profileOf 118 = .ok (.goto 22, 3) := by decide +kernel
theorem dX12_profileOf_121 : decode cX12_profileOf 121 = .ok (.aload_n 0, 1) := by decide +kernel
theorem dX12_profileOf_122 : decode cX12_profileOf 122 = .ok (.iload_n 3, 1) := by decide +kernel
theorem dX12_profileOf_123 : decode cX12_profileOf 123 = .ok (.aload_n 0, 1) := by decide +kernel
theorem dX12_profileOf_124 : decode cX12_profileOf 124 = .ok (.getfield 22, 3) := by decide +kernel
theorem dX12_profileOf_127 : decode cX12_profileOf 127 = .ok (.iload_n 1, 1) := by decide +kernel
theorem dX12_profileOf_128 : decode cX12_profileOf 128 = .ok (.iaload, 1) := by decide +kernel
theorem dX12_profileOf_129 : decode cX12_profileOf 129 = .ok (.aload_n 0, 1) := by decide +kernel
theorem dX12_profileOf_130 : decode cX12_profileOf 130 = .ok (.getfield 22, 3) := by decide +kernel
theorem dX12_profileOf_133 : decode cX12_profileOf 133 = .ok (.iload 4, 2) := by decide +kernel
theorem dX12_profileOf_135 : decode cX12_profileOf 135 = .ok (.iaload, 1) := by decide +kernel
theorem dX12_profileOf_136 : decode cX12_profileOf 136 = .ok (.isub, 1) := by decide +kernel
theorem dX12_profileOf_137 : decode cX12_profileOf 137 = .ok (.invokevirtual 162, 3) := by decide +kernel
theorem dX12_profileOf_140 : decode cX12_profileOf 140 = .ok (.ireturn, 1) := by decide +kernel
theorem kd_X12_profileOf : aKd m_X12_profileOf 2 := ⟨wd_21_12, wd_1_5, ⟨by decide +kernel, by decide +kernel, by decide +kernel⟩⟩
set_option maxRecDepth 100000 in
set_option maxHeartbeats 4000000 in
theorem l_X12_profileOf_104 (rec9 : Int32 → Int32 → Int32 → Int32 → Int32 → aSt → Option (Int32 × aSt)) (hrec9 : ∀ (x1 : Int32) (x2 : Int32) (x3 : Int32) (x4 : Int32) (x5 : Int32) (σ : aSt) (o : Int32 × aSt), rec9 x1 x2 x3 x4 x5 σ = some o → AW true m_X12_profileOf 9 [(0, va_rf (some (57))), (1, Value.int (x1)), (2, Value.int (x2)), (3, Value.int (x3)), (4, Value.int (x4)), (5, Value.int (x5))] [] σ 0 0 (some (.int o.1)) o.2) (x1 : Int32) (x2 : Int32) (x3 : Int32) (x4 : Int32) (x5 : Int32) (σ : aSt) (o : Int32 × aSt) (h : f_X12_profileOf_104 rec9 x1 x2 x3 x4 x5 σ = some o) : AW true m_X12_profileOf 104 [(0, va_rf (some (57))), (1, Value.int (x1)), (2, Value.int (x2)), (3, Value.int (x3)), (4, Value.int (x4)), (5, Value.int (x5))] [] σ 0 0 (some (.int o.1)) o.2 := by
  unfold f_X12_profileOf_104 at h
  refine w_iinc (q := 5) (v := x5 + 1) dX12_profileOf_104 rfl rfl (by decide) rfl ?_
  refine w_goto 9 dX12_profileOf_107 (by decide) ?_
  refine w_sub [1, 2, 3, 4, 5, 0] rfl ?_
  exact hrec9 _ _ _ _ _ _ _ h
set_option maxRecDepth 100000 in
set_option maxHeartbeats 4000000 in
theorem l_X12_profileOf_85 (rec9 : Int32 → Int32 → Int32 → Int32 → Int32 → aSt → Option (Int32 × aSt)) (hrec9 : ∀ (x1 : Int32) (x2 : Int32) (x3 : Int32) (x4 : Int32) (x5 : Int32) (σ : aSt) (o : Int32 × aSt), rec9 x1 x2 x3 x4 x5 σ = some o → AW true m_X12_profileOf 9 [(0, va_rf (some (57))), (1, Value.int (x1)), (2, Value.int (x2)), (3, Value.int (x3)), (4, Value.int (x4)), (5, Value.int (x5))] [] σ 0 0 (some (.int o.1)) o.2) (x1 : Int32) (x2 : Int32) (x5 : Int32) (x6 : Int32) (t0 : Int32) (σ : aSt) (o : Int32 × aSt) (h : f_X12_profileOf_85 rec9 x1 x2 x5 x6 t0 σ = some o) : AW true m_X12_profileOf 85 [(0, va_rf (some (57))), (1, Value.int (x1)), (2, Value.int (x2)), (5, Value.int (x5)), (6, Value.int (x6))] [.int (t0)] σ 0 0 (some (.int o.1)) o.2 := by
  unfold f_X12_profileOf_85 at h
  refine w_istore_n dX12_profileOf_85 rfl (by decide) rfl ?_
  refine w_iload_n 0 dX12_profileOf_86 rfl rfl ?_
  refine w_aload_n 1 ((some (57))) dX12_profileOf_87 rfl rfl ?_
  refine w_get (v := va_rf (some 65)) dX12_profileOf_88 fl_RX12_31 ⟨rfl, Or.inr ⟨rfl, by decide⟩⟩ (aFv_k rfl) ?_
  refine w_iload 5 dX12_profileOf_91 rfl ?_
  replace h := e_grd h; obtain ⟨b1, h⟩ := h
  refine w_iaload dX12_profileOf_93 ⟨rfl, Or.inr ⟨rfl, by decide⟩⟩ b1 ?_
  refine w_iload_n 0 dX12_profileOf_94 rfl rfl ?_
  refine w_isub dX12_profileOf_95 ?_
  refine w_iconst (v := 4) dX12_profileOf_96 (by decide) ?_
  refine w_idiv dX12_profileOf_97 (by decide) ?_
  refine w_iadd dX12_profileOf_98 ?_
  refine w_istore_n dX12_profileOf_99 rfl (by decide) rfl ?_
  refine w_iload 5 dX12_profileOf_100 rfl ?_
  refine w_istore dX12_profileOf_102 (by decide) rfl ?_
  refine w_sub [2, 3, 4, 1, 0, 5] rfl ?_
  exact l_X12_profileOf_104 rec9 hrec9 _ _ _ _ _ _ _ h
set_option maxRecDepth 100000 in
set_option maxHeartbeats 4000000 in
theorem l_X12_profileOf_140  (t0 : Int32) (σ : aSt) (o : Int32 × aSt) (h : f_X12_profileOf_140  t0 σ = some o) : AW true m_X12_profileOf 140 [] [.int (t0)] σ 0 0 (some (.int o.1)) o.2 := by
  unfold f_X12_profileOf_140 at h
  obtain rfl := Option.some.inj h
  exact w_ireturn dX12_profileOf_140 rfl (Nat.le_of_ble_eq_true rfl) (Nat.le_of_ble_eq_true rfl)
set_option maxRecDepth 100000 in
set_option maxHeartbeats 4000000 in
theorem l_X12_profileOf_9_b (rec9 : Int32 → Int32 → Int32 → Int32 → Int32 → aSt → Option (Int32 × aSt)) (hrec9 : ∀ (x1 : Int32) (x2 : Int32) (x3 : Int32) (x4 : Int32) (x5 : Int32) (σ : aSt) (o : Int32 × aSt), rec9 x1 x2 x3 x4 x5 σ = some o → AW true m_X12_profileOf 9 [(0, va_rf (some (57))), (1, Value.int (x1)), (2, Value.int (x2)), (3, Value.int (x3)), (4, Value.int (x4)), (5, Value.int (x5))] [] σ 0 0 (some (.int o.1)) o.2) (x1 : Int32) (x2 : Int32) (x3 : Int32) (x4 : Int32) (x5 : Int32) (σ : aSt) (o : Int32 × aSt) (h : f_X12_profileOf_9_b rec9 x1 x2 x3 x4 x5 σ = some o) : AW true m_X12_profileOf 9 [(0, va_rf (some (57))), (1, Value.int (x1)), (2, Value.int (x2)), (3, Value.int (x3)), (4, Value.int (x4)), (5, Value.int (x5))] [] σ 0 0 (some (.int o.1)) o.2 := by
  unfold f_X12_profileOf_9_b at h
  refine w_iload 5 dX12_profileOf_9 rfl ?_
  refine w_aload_n 0 ((some (57))) dX12_profileOf_11 rfl rfl ?_
  refine w_get dX12_profileOf_12 fl_RX12_127 ⟨rfl, Or.inr ⟨rfl, by decide⟩⟩ (aFv_i rfl) ?_
  refine w_icmp_ge 110 dX12_profileOf_15 (by decide) (fun c2 => ?_) (fun c2 => ?_)
  · replace h := e_t c2 h
    refine w_iload 4 dX12_profileOf_110 rfl ?_
    refine w_ldc (v := (-1000000)) dX12_profileOf_112 wd_15_11 ?_
    refine w_icmp_ne 121 dX12_profileOf_114 (by decide) (fun c3 => ?_) (fun c3 => ?_)
    · replace h := e_f c3 h
      refine w_aload_n 0 ((some (57))) dX12_profileOf_121 rfl rfl ?_
      refine w_iload_n 3 dX12_profileOf_122 rfl rfl ?_
      refine w_aload_n 0 ((some (57))) dX12_profileOf_123 rfl rfl ?_
      refine w_get (v := va_rf (some 62)) dX12_profileOf_124 fl_RX12_22 ⟨rfl, Or.inr ⟨rfl, by decide⟩⟩ (aFv_k rfl) ?_
      refine w_iload_n 1 dX12_profileOf_127 rfl rfl ?_
      replace h := e_grd h; obtain ⟨b4, h⟩ := h
      refine w_iaload dX12_profileOf_128 ⟨rfl, Or.inr ⟨rfl, by decide⟩⟩ b4 ?_
      refine w_aload_n 0 ((some (57))) dX12_profileOf_129 rfl rfl ?_
      refine w_get (v := va_rf (some 62)) dX12_profileOf_130 fl_RX12_22 ⟨rfl, Or.inr ⟨rfl, by decide⟩⟩ (aFv_k rfl) ?_
      refine w_iload 4 dX12_profileOf_133 rfl ?_
      replace h := e_grd h; obtain ⟨b5, h⟩ := h
      refine w_iaload dX12_profileOf_135 ⟨rfl, Or.inr ⟨rfl, by decide⟩⟩ b5 ?_
      refine w_isub dX12_profileOf_136 ?_
      replace h := e_bind h; obtain ⟨q6, e7, h⟩ := h
      refine w_callV1 (M2 := m_X12_faded) (av := [.int (x3), .int ((gI σ 62 x1.toNatClampNeg) - (gI σ 62 x4.toNatClampNeg))]) (ci := 12) (c_X12_faded _ _ _ _ e7) dX12_profileOf_137 kd_X12_faded wd_21_13 wd_21_14 wd_21_15 rfl rfl ⟨rfl, Or.inr ⟨rfl, by decide⟩⟩ rfl ⟨Nat.le_of_ble_eq_true rfl, Nat.le_of_ble_eq_true rfl, Nat.le_of_ble_eq_true rfl, Nat.le_of_ble_eq_true rfl⟩ (Nat.le_of_ble_eq_true rfl) ?_
      refine w_sub [] rfl ?_
      exact l_X12_profileOf_140 _ _ _ h
    · replace h := e_t c3 h
      refine w_iload_n 3 dX12_profileOf_117 rfl rfl ?_
      refine w_goto 140 dX12_profileOf_118 (by decide) ?_
      refine w_sub [] rfl ?_
      exact l_X12_profileOf_140 _ _ _ h
  · replace h := e_f c2 h
    refine w_aload_n 0 ((some (57))) dX12_profileOf_18 rfl rfl ?_
    refine w_get (v := va_rf (some 68)) dX12_profileOf_19 fl_RX12_40 ⟨rfl, Or.inr ⟨rfl, by decide⟩⟩ (aFv_k rfl) ?_
    refine w_iload 5 dX12_profileOf_22 rfl ?_
    replace h := e_grd h; obtain ⟨b8, h⟩ := h
    refine w_iaload dX12_profileOf_24 ⟨rfl, Or.inr ⟨rfl, by decide⟩⟩ b8 ?_
    refine w_istore dX12_profileOf_25 (by decide) rfl ?_
    refine w_aload_n 1 ((some (57))) dX12_profileOf_27 rfl rfl ?_
    refine w_iload 0 dX12_profileOf_28 rfl ?_
    refine w_iload_n 2 dX12_profileOf_30 rfl rfl ?_
    refine w_iload_n 3 dX12_profileOf_31 rfl rfl ?_
    replace h := e_bind h; obtain ⟨q9, e10, h⟩ := h
    refine w_callV1 (M2 := m_X12_isAhead) (av := [.int (gI σ 68 x5.toNatClampNeg), .int (x1), .int (x2)]) (ci := 12) (c_X12_isAhead _ _ _ _ _ e10) dX12_profileOf_32 kd_X12_isAhead wd_21_2 wd_21_3 wd_21_4 rfl rfl ⟨rfl, Or.inr ⟨rfl, by decide⟩⟩ rfl ⟨Nat.le_of_ble_eq_true rfl, Nat.le_of_ble_eq_true rfl, Nat.le_of_ble_eq_true rfl, Nat.le_of_ble_eq_true rfl⟩ (Nat.le_of_ble_eq_true rfl) ?_
    refine w_if_eq 104 dX12_profileOf_35 (by decide) (fun c11 => ?_) (fun c11 => ?_)
    · replace h := e_t c11 h
      refine w_sub [1, 2, 3, 4, 5, 6] rfl ?_
      exact l_X12_profileOf_104 rec9 hrec9 _ _ _ _ _ _ _ h
    · replace h := e_f c11 h
      refine w_aload_n 1 ((some (57))) dX12_profileOf_38 rfl rfl ?_
      refine w_get (v := va_rf (some 63)) dX12_profileOf_39 fl_RX12_25 ⟨rfl, Or.inr ⟨rfl, by decide⟩⟩ (aFv_k rfl) ?_
      refine w_iload 0 dX12_profileOf_42 rfl ?_
      replace h := e_grd h; obtain ⟨b12, h⟩ := h
      refine w_iaload dX12_profileOf_44 ⟨rfl, Or.inr ⟨rfl, by decide⟩⟩ b12 ?_
      refine w_aload_n 1 ((some (57))) dX12_profileOf_45 rfl rfl ?_
      refine w_get (v := va_rf (some 63)) dX12_profileOf_46 fl_RX12_25 ⟨rfl, Or.inr ⟨rfl, by decide⟩⟩ (aFv_k rfl) ?_
      refine w_iload_n 2 dX12_profileOf_49 rfl rfl ?_
      replace h := e_grd h; obtain ⟨b13, h⟩ := h
      refine w_iaload dX12_profileOf_50 ⟨rfl, Or.inr ⟨rfl, by decide⟩⟩ b13 ?_
      refine w_icmp_ne 104 dX12_profileOf_51 (by decide) (fun c14 => ?_) (fun c14 => ?_)
      · replace h := e_f c14 h
        refine w_sub [1, 2, 3, 4, 5, 6] rfl ?_
        exact l_X12_profileOf_104 rec9 hrec9 _ _ _ _ _ _ _ h
      · replace h := e_t c14 h
        refine w_iload 5 dX12_profileOf_54 rfl ?_
        refine w_ldc (v := (-1000000)) dX12_profileOf_56 wd_15_11 ?_
        refine w_icmp_ne 65 dX12_profileOf_58 (by decide) (fun c15 => ?_) (fun c15 => ?_)
        · replace h := e_f c15 h
          refine w_aload_n 1 ((some (57))) dX12_profileOf_65 rfl rfl ?_
          refine w_iload_n 4 dX12_profileOf_66 rfl rfl ?_
          refine w_aload_n 1 ((some (57))) dX12_profileOf_67 rfl rfl ?_
          refine w_get (v := va_rf (some 62)) dX12_profileOf_68 fl_RX12_22 ⟨rfl, Or.inr ⟨rfl, by decide⟩⟩ (aFv_k rfl) ?_
          refine w_iload 0 dX12_profileOf_71 rfl ?_
          replace h := e_grd h; obtain ⟨b16, h⟩ := h
          refine w_iaload dX12_profileOf_73 ⟨rfl, Or.inr ⟨rfl, by decide⟩⟩ b16 ?_
          refine w_aload_n 1 ((some (57))) dX12_profileOf_74 rfl rfl ?_
          refine w_get (v := va_rf (some 62)) dX12_profileOf_75 fl_RX12_22 ⟨rfl, Or.inr ⟨rfl, by decide⟩⟩ (aFv_k rfl) ?_
          refine w_iload 5 dX12_profileOf_78 rfl ?_
          replace h := e_grd h; obtain ⟨b17, h⟩ := h
          refine w_iaload dX12_profileOf_80 ⟨rfl, Or.inr ⟨rfl, by decide⟩⟩ b17 ?_
          refine w_isub dX12_profileOf_81 ?_
          replace h := e_bind h; obtain ⟨q18, e19, h⟩ := h
          refine w_callV1 (M2 := m_X12_faded) (av := [.int (x3), .int ((gI q9.2 62 (gI σ 68 x5.toNatClampNeg).toNatClampNeg) - (gI q9.2 62 x4.toNatClampNeg))]) (ci := 12) (c_X12_faded _ _ _ _ e19) dX12_profileOf_82 kd_X12_faded wd_21_13 wd_21_14 wd_21_15 rfl rfl ⟨rfl, Or.inr ⟨rfl, by decide⟩⟩ rfl ⟨Nat.le_of_ble_eq_true rfl, Nat.le_of_ble_eq_true rfl, Nat.le_of_ble_eq_true rfl, Nat.le_of_ble_eq_true rfl⟩ (Nat.le_of_ble_eq_true rfl) ?_
          refine w_sub [1, 2, 3, 6, 0] rfl ?_
          exact l_X12_profileOf_85 rec9 hrec9 _ _ _ _ _ _ _ h
        · replace h := e_t c15 h
          refine w_iload_n 4 dX12_profileOf_61 rfl rfl ?_
          refine w_goto 85 dX12_profileOf_62 (by decide) ?_
          refine w_sub [1, 2, 3, 6, 0] rfl ?_
          exact l_X12_profileOf_85 rec9 hrec9 _ _ _ _ _ _ _ h
theorem l_X12_profileOf_9  : ∀ (n : Nat) (x1 : Int32) (x2 : Int32) (x3 : Int32) (x4 : Int32) (x5 : Int32) (σ : aSt) (o : Int32 × aSt), f_X12_profileOf_9  n x1 x2 x3 x4 x5 σ = some o → AW true m_X12_profileOf 9 [(0, va_rf (some (57))), (1, Value.int (x1)), (2, Value.int (x2)), (3, Value.int (x3)), (4, Value.int (x4)), (5, Value.int (x5))] [] σ 0 0 (some (.int o.1)) o.2
  | 0 => fun x1 x2 x3 x4 x5 σ o h => by cases h
  | n + 1 => fun x1 x2 x3 x4 x5 σ o h => l_X12_profileOf_9_b (f_X12_profileOf_9  n) (l_X12_profileOf_9  n) x1 x2 x3 x4 x5 σ o h
set_option maxRecDepth 100000 in
set_option maxHeartbeats 4000000 in
theorem c_X12_profileOf (p1 : Int32) (p2 : Int32) (σ : aSt) (o : Int32 × aSt) (h : f_X12_profileOf p1 p2 σ = some o) : AM true m_X12_profileOf [va_rf (some (57)), .int (p1), .int (p2)] σ (some (.int o.1)) o.2 := by
  refine AM_of2 (lv := [(0, va_rf (some (57))), (1, Value.int (p1)), (2, Value.int (p2))]) (by decide +kernel) rfl (Nat.le_of_ble_eq_true rfl) ?_
  unfold f_X12_profileOf at h
  refine w_iconst (v := 0) dX12_profileOf_0 (by decide) ?_
  refine w_istore_n dX12_profileOf_1 rfl (by decide) rfl ?_
  refine w_ldc (v := (-1000000)) dX12_profileOf_2 wd_15_11 ?_
  refine w_istore dX12_profileOf_4 (by decide) rfl ?_
  refine w_iconst (v := 0) dX12_profileOf_6 (by decide) ?_
  refine w_istore dX12_profileOf_7 (by decide) rfl ?_
  refine w_sub [3, 4, 5, 2, 1, 0] rfl ?_
  exact l_X12_profileOf_9 aN _ _ _ _ _ _ _ h
theorem dX12_farOf_0 : decode cX12_farOf 0 = .ok (.iconst 1, 1) := by decide +kernel
theorem dX12_farOf_1 : decode cX12_farOf 1 = .ok (.aload_n 0, 1) := by decide +kernel
theorem dX12_farOf_2 : decode cX12_farOf 2 = .ok (.getfield 28, 3) := by decide +kernel
theorem dX12_farOf_5 : decode cX12_farOf 5 = .ok (.iload_n 1, 1) := by decide +kernel
theorem dX12_farOf_6 : decode cX12_farOf 6 = .ok (.iaload, 1) := by decide +kernel
theorem dX12_farOf_7 : decode cX12_farOf 7 = .ok (.ishl, 1) := by decide +kernel
theorem dX12_farOf_8 : decode cX12_farOf 8 = .ok (.istore_n 3, 1) := by decide +kernel
theorem dX12_farOf_9 : decode cX12_farOf 9 = .ok (.iconst 0, 1) := by decide +kernel
theorem dX12_farOf_10 : decode cX12_farOf 10 = .ok (.istore 4, 2) := by decide +kernel
theorem dX12_farOf_12 : decode cX12_farOf 12 = .ok (.iload 4, 2) := by decide +kernel
theorem dX12_farOf_14 : decode cX12_farOf 14 = .ok (.bipush 9, 2) := by decide +kernel
theorem dX12_farOf_16 : decode cX12_farOf 16 = .ok (.if_icmp .ge 122, 3) := by decide +kernel
theorem dX12_farOf_19 : decode cX12_farOf 19 = .ok (.iload_n 3, 1) := by decide +kernel
theorem dX12_farOf_20 : decode cX12_farOf 20 = .ok (.aload_n 0, 1) := by decide +kernel
theorem dX12_farOf_21 : decode cX12_farOf 21 = .ok (.getfield 155, 3) := by decide +kernel
theorem dX12_farOf_24 : decode cX12_farOf 24 = .ok (.iand, 1) := by decide +kernel
theorem dX12_farOf_25 : decode cX12_farOf 25 = .ok (.ifCond .eq 6, 3) := by decide +kernel
theorem dX12_farOf_28 : decode cX12_farOf 28 = .ok (.iload 4, 2) := by decide +kernel
theorem dX12_farOf_30 : decode cX12_farOf 30 = .ok (.ireturn, 1) := by decide +kernel
theorem dX12_farOf_31 : decode cX12_farOf 31 = .ok (.iload_n 3, 1) := by decide +kernel
theorem dX12_farOf_32 : decode cX12_farOf 32 = .ok (.istore 5, 2) := by decide +kernel
theorem dX12_farOf_34 : decode cX12_farOf 34 = .ok (.iconst 0, 1) := by decide +kernel
theorem dX12_farOf_35 : decode cX12_farOf 35 = .ok (.istore 6, 2) := by decide +kernel
theorem dX12_farOf_37 : decode cX12_farOf 37 = .ok (.iload 6, 2) := by decide +kernel
theorem dX12_farOf_39 : decode cX12_farOf 39 = .ok (.aload_n 0, 1) := by decide +kernel
theorem dX12_farOf_40 : decode cX12_farOf 40 = .ok (.getfield 127, 3) := by decide +kernel
theorem dX12_farOf_43 : decode cX12_farOf 43 = .ok (.if_icmp .ge 86, 3) := by decide +kernel
theorem dX12_farOf_46 : decode cX12_farOf 46 = .ok (.aload_n 0, 1) := by decide +kernel
theorem dX12_farOf_47 : decode cX12_farOf 47 = .ok (.iload 6, 2) := by decide +kernel
theorem dX12_farOf_49 : decode cX12_farOf 49 = .ok (.iload_n 1, 1) := by decide +kernel
theorem dX12_farOf_50 : decode cX12_farOf 50 = .ok (.iload_n 2, 1) := by decide +kernel
theorem dX12_farOf_51 : decode cX12_farOf 51 = .ok (.invokevirtual 158, 3) := by decide +kernel
theorem dX12_farOf_54 : decode cX12_farOf 54 = .ok (.ifCond .eq 69, 3) := by decide +kernel
theorem dX12_farOf_57 : decode cX12_farOf 57 = .ok (.iload 5, 2) := by decide +kernel
theorem dX12_farOf_59 : decode cX12_farOf 59 = .ok (.iload_n 3, 1) := by decide +kernel
theorem dX12_farOf_60 : decode cX12_farOf 60 = .ok (.aload_n 0, 1) := by decide +kernel
theorem dX12_farOf_61 : decode cX12_farOf 61 = .ok (.getfield 25, 3) := by decide +kernel
theorem dX12_farOf_64 : decode cX12_farOf 64 = .ok (.iload 6, 2) := by decide +kernel
theorem dX12_farOf_66 : decode cX12_farOf 66 = .ok (.iaload, 1) := by decide +kernel
theorem dX12_farOf_67 : decode cX12_farOf 67 = .ok (.ishr, 1) := by decide +kernel
theorem dX12_farOf_68 : decode cX12_farOf 68 = .ok (.iconst 1, 1) := by decide +kernel
theorem dX12_farOf_69 : decode cX12_farOf 69 = .ok (.iand, 1) := by decide +kernel
theorem dX12_farOf_70 : decode cX12_farOf 70 = .ok (.iconst 1, 1) := by decide +kernel
theorem dX12_farOf_71 : decode cX12_farOf 71 = .ok (.if_icmp .ne 15, 3) := by decide +kernel
theorem dX12_farOf_74 : decode cX12_farOf 74 = .ok (.iconst 1, 1) := by decide +kernel
theorem dX12_farOf_75 : decode cX12_farOf 75 = .ok (.aload_n 0, 1) := by decide +kernel
theorem dX12_farOf_76 : decode cX12_farOf 76 = .ok (.getfield 28, 3) := by decide +kernel
theorem dX12_farOf_79 : decode cX12_farOf 79 = .ok (.iload 6, 2) := by decide +kernel
theorem dX12_farOf_81 : decode cX12_farOf 81 = .ok (.iaload, 1) := by decide +kernel
theorem dX12_farOf_82 : decode cX12_farOf 82 = .ok (.ishl, 1) := by decide +kernel
theorem dX12_farOf_83 : decode cX12_farOf 83 = .ok (.goto 4, 3) := by decide +kernel
theorem dX12_farOf_86 : decode cX12_farOf 86 = .ok (.iconst 0, 1) := by decide +kernel
theorem dX12_farOf_87 : decode cX12_farOf 87 = .ok (.ior, 1) := by decide +kernel
theorem dX12_farOf_88 : decode cX12_farOf 88 = .ok (.istore 5, 2) := by decide +kernel
theorem dX12_farOf_90 : decode cX12_farOf 90 = .ok (.iload 5, 2) := by decide +kernel
theorem dX12_farOf_92 : decode cX12_farOf 92 = .ok (.iload_n 3, 1) := by decide +kernel
theorem dX12_farOf_93 : decode cX12_farOf 93 = .ok (.aload_n 0, 1) := by decide +kernel
theorem dX12_farOf_94 : decode cX12_farOf 94 = .ok (.getfield 28, 3) := by decide +kernel
theorem dX12_farOf_97 : decode cX12_farOf 97 = .ok (.iload 6, 2) := by decide +kernel
theorem dX12_farOf_99 : decode cX12_farOf 99 = .ok (.iaload, 1) := by decide +kernel
theorem dX12_farOf_100 : decode cX12_farOf 100 = .ok (.ishr, 1) := by decide +kernel
theorem dX12_farOf_101 : decode cX12_farOf 101 = .ok (.iconst 1, 1) := by decide +kernel
theorem dX12_farOf_102 : decode cX12_farOf 102 = .ok (.iand, 1) := by decide +kernel
theorem dX12_farOf_103 : decode cX12_farOf 103 = .ok (.iconst 1, 1) := by decide +kernel
theorem dX12_farOf_104 : decode cX12_farOf 104 = .ok (.if_icmp .ne 15, 3) := by decide +kernel
theorem dX12_farOf_107 : decode cX12_farOf 107 = .ok (.iconst 1, 1) := by decide +kernel
theorem dX12_farOf_108 : decode cX12_farOf 108 = .ok (.aload_n 0, 1) := by decide +kernel
theorem dX12_farOf_109 : decode cX12_farOf 109 = .ok (.getfield 25, 3) := by decide +kernel
theorem dX12_farOf_112 : decode cX12_farOf 112 = .ok (.iload 6, 2) := by decide +kernel
theorem dX12_farOf_114 : decode cX12_farOf 114 = .ok (.iaload, 1) := by decide +kernel
theorem dX12_farOf_115 : decode cX12_farOf 115 = .ok (.ishl, 1) := by decide +kernel
theorem dX12_farOf_116 : decode cX12_farOf 116 = .ok (.goto 4, 3) := by decide +kernel
theorem dX12_farOf_119 : decode cX12_farOf 119 = .ok (.iconst 0, 1) := by decide +kernel
theorem dX12_farOf_120 : decode cX12_farOf 120 = .ok (.ior, 1) := by decide +kernel
theorem dX12_farOf_121 : decode cX12_farOf 121 = .ok (.istore 5, 2) := by decide +kernel
theorem dX12_farOf_123 : decode cX12_farOf 123 = .ok (.iinc 6 1, 3) := by decide +kernel
theorem dX12_farOf_126 : decode cX12_farOf 126 = .ok (.goto (-89), 3) := by decide +kernel
theorem dX12_farOf_129 : decode cX12_farOf 129 = .ok (.iload 5, 2) := by decide +kernel
theorem dX12_farOf_131 : decode cX12_farOf 131 = .ok (.istore_n 3, 1) := by decide +kernel
theorem dX12_farOf_132 : decode cX12_farOf 132 = .ok (.iinc 4 1, 3) := by decide +kernel
theorem dX12_farOf_135 : decode cX12_farOf 135 = .ok (.goto (-123), 3) := by decide +kernel
theorem dX12_farOf_138 : decode cX12_farOf 138 = .ok (.bipush 9, 2) := by decide +kernel
theorem dX12_farOf_140 : decode cX12_farOf 140 = .ok (.ireturn, 1) := by decide +kernel
theorem kd_X12_farOf : aKd m_X12_farOf 2 := ⟨wd_21_20, wd_1_5, ⟨by decide +kernel, by decide +kernel, by decide +kernel⟩⟩
set_option maxRecDepth 100000 in
set_option maxHeartbeats 4000000 in
theorem l_X12_farOf_123 (rec12 : Int32 → Int32 → Int32 → Int32 → aSt → Option (Int32 × aSt)) (hrec12 : ∀ (x1 : Int32) (x2 : Int32) (x3 : Int32) (x4 : Int32) (σ : aSt) (o : Int32 × aSt), rec12 x1 x2 x3 x4 σ = some o → AW true m_X12_farOf 12 [(0, va_rf (some (57))), (1, Value.int (x1)), (2, Value.int (x2)), (3, Value.int (x3)), (4, Value.int (x4))] [] σ 0 0 (some (.int o.1)) o.2) (rec37 : Int32 → Int32 → Int32 → Int32 → Int32 → Int32 → aSt → Option (Int32 × aSt)) (hrec37 : ∀ (x1 : Int32) (x2 : Int32) (x3 : Int32) (x4 : Int32) (x5 : Int32) (x6 : Int32) (σ : aSt) (o : Int32 × aSt), rec37 x1 x2 x3 x4 x5 x6 σ = some o → AW true m_X12_farOf 37 [(0, va_rf (some (57))), (1, Value.int (x1)), (2, Value.int (x2)), (3, Value.int (x3)), (4, Value.int (x4)), (5, Value.int (x5)), (6, Value.int (x6))] [] σ 0 0 (some (.int o.1)) o.2) (x1 : Int32) (x2 : Int32) (x3 : Int32) (x4 : Int32) (x5 : Int32) (x6 : Int32) (σ : aSt) (o : Int32 × aSt) (h : f_X12_farOf_123 rec12 rec37 x1 x2 x3 x4 x5 x6 σ = some o) : AW true m_X12_farOf 123 [(0, va_rf (some (57))), (1, Value.int (x1)), (2, Value.int (x2)), (3, Value.int (x3)), (4, Value.int (x4)), (5, Value.int (x5)), (6, Value.int (x6))] [] σ 0 0 (some (.int o.1)) o.2 := by
  unfold f_X12_farOf_123 at h
  refine w_iinc (q := 6) (v := x6 + 1) dX12_farOf_123 rfl rfl (by decide) rfl ?_
  refine w_goto 37 dX12_farOf_126 (by decide) ?_
  refine w_sub [1, 2, 3, 4, 5, 6, 0] rfl ?_
  exact hrec37 _ _ _ _ _ _ _ _ h
set_option maxRecDepth 100000 in
set_option maxHeartbeats 4000000 in
theorem l_X12_farOf_120 (rec12 : Int32 → Int32 → Int32 → Int32 → aSt → Option (Int32 × aSt)) (hrec12 : ∀ (x1 : Int32) (x2 : Int32) (x3 : Int32) (x4 : Int32) (σ : aSt) (o : Int32 × aSt), rec12 x1 x2 x3 x4 σ = some o → AW true m_X12_farOf 12 [(0, va_rf (some (57))), (1, Value.int (x1)), (2, Value.int (x2)), (3, Value.int (x3)), (4, Value.int (x4))] [] σ 0 0 (some (.int o.1)) o.2) (rec37 : Int32 → Int32 → Int32 → Int32 → Int32 → Int32 → aSt → Option (Int32 × aSt)) (hrec37 : ∀ (x1 : Int32) (x2 : Int32) (x3 : Int32) (x4 : Int32) (x5 : Int32) (x6 : Int32) (σ : aSt) (o : Int32 × aSt), rec37 x1 x2 x3 x4 x5 x6 σ = some o → AW true m_X12_farOf 37 [(0, va_rf (some (57))), (1, Value.int (x1)), (2, Value.int (x2)), (3, Value.int (x3)), (4, Value.int (x4)), (5, Value.int (x5)), (6, Value.int (x6))] [] σ 0 0 (some (.int o.1)) o.2) (x1 : Int32) (x2 : Int32) (x3 : Int32) (x4 : Int32) (x6 : Int32) (t0 : Int32) (t1 : Int32) (σ : aSt) (o : Int32 × aSt) (h : f_X12_farOf_120 rec12 rec37 x1 x2 x3 x4 x6 t0 t1 σ = some o) : AW true m_X12_farOf 120 [(0, va_rf (some (57))), (1, Value.int (x1)), (2, Value.int (x2)), (3, Value.int (x3)), (4, Value.int (x4)), (6, Value.int (x6))] [.int (t1), .int (t0)] σ 0 0 (some (.int o.1)) o.2 := by
  unfold f_X12_farOf_120 at h
  refine w_ior dX12_farOf_120 ?_
  refine w_istore dX12_farOf_121 (by decide) rfl ?_
  refine w_sub [1, 2, 3, 4, 5, 0, 6] rfl ?_
  exact l_X12_farOf_123 rec12 hrec12 rec37 hrec37 _ _ _ _ _ _ _ _ h
set_option maxRecDepth 100000 in
set_option maxHeartbeats 4000000 in
theorem l_X12_farOf_87 (rec12 : Int32 → Int32 → Int32 → Int32 → aSt → Option (Int32 × aSt)) (hrec12 : ∀ (x1 : Int32) (x2 : Int32) (x3 : Int32) (x4 : Int32) (σ : aSt) (o : Int32 × aSt), rec12 x1 x2 x3 x4 σ = some o → AW true m_X12_farOf 12 [(0, va_rf (some (57))), (1, Value.int (x1)), (2, Value.int (x2)), (3, Value.int (x3)), (4, Value.int (x4))] [] σ 0 0 (some (.int o.1)) o.2) (rec37 : Int32 → Int32 → Int32 → Int32 → Int32 → Int32 → aSt → Option (Int32 × aSt)) (hrec37 : ∀ (x1 : Int32) (x2 : Int32) (x3 : Int32) (x4 : Int32) (x5 : Int32) (x6 : Int32) (σ : aSt) (o : Int32 × aSt), rec37 x1 x2 x3 x4 x5 x6 σ = some o → AW true m_X12_farOf 37 [(0, va_rf (some (57))), (1, Value.int (x1)), (2, Value.int (x2)), (3, Value.int (x3)), (4, Value.int (x4)), (5, Value.int (x5)), (6, Value.int (x6))] [] σ 0 0 (some (.int o.1)) o.2) (x1 : Int32) (x2 : Int32) (x3 : Int32) (x4 : Int32) (x6 : Int32) (t0 : Int32) (t1 : Int32) (σ : aSt) (o : Int32 × aSt) (h : f_X12_farOf_87 rec12 rec37 x1 x2 x3 x4 x6 t0 t1 σ = some o) : AW true m_X12_farOf 87 [(0, va_rf (some (57))), (1, Value.int (x1)), (2, Value.int (x2)), (3, Value.int (x3)), (4, Value.int (x4)), (6, Value.int (x6))] [.int (t1), .int (t0)] σ 0 0 (some (.int o.1)) o.2 := by
  unfold f_X12_farOf_87 at h
  refine w_ior dX12_farOf_87 ?_
  refine w_istore dX12_farOf_88 (by decide) rfl ?_
  refine w_iload 0 dX12_farOf_90 rfl ?_
  refine w_iload_n 4 dX12_farOf_92 rfl rfl ?_
  refine w_aload_n 1 ((some (57))) dX12_farOf_93 rfl rfl ?_
  refine w_get (v := va_rf (some 64)) dX12_farOf_94 fl_RX12_28 ⟨rfl, Or.inr ⟨rfl, by decide⟩⟩ (aFv_k rfl) ?_
  refine w_iload 6 dX12_farOf_97 rfl ?_
  replace h := e_grd h; obtain ⟨b2, h⟩ := h
  refine w_iaload dX12_farOf_99 ⟨rfl, Or.inr ⟨rfl, by decide⟩⟩ b2 ?_
  refine w_ishr dX12_farOf_100 ?_
  refine w_iconst (v := 1) dX12_farOf_101 (by decide) ?_
  refine w_iand dX12_farOf_102 ?_
  refine w_iconst (v := 1) dX12_farOf_103 (by decide) ?_
  refine w_icmp_ne 119 dX12_farOf_104 (by decide) (fun c3 => ?_) (fun c3 => ?_)
  · replace h := e_f c3 h
    refine w_iconst (v := 0) dX12_farOf_119 (by decide) ?_
    refine w_sub [1, 2, 3, 4, 5, 6] rfl ?_
    exact l_X12_farOf_120 rec12 hrec12 rec37 hrec37 _ _ _ _ _ _ _ _ _ h
  · replace h := e_t c3 h
    refine w_iconst (v := 1) dX12_farOf_107 (by decide) ?_
    refine w_aload_n 1 ((some (57))) dX12_farOf_108 rfl rfl ?_
    refine w_get (v := va_rf (some 63)) dX12_farOf_109 fl_RX12_25 ⟨rfl, Or.inr ⟨rfl, by decide⟩⟩ (aFv_k rfl) ?_
    refine w_iload 6 dX12_farOf_112 rfl ?_
    replace h := e_grd h; obtain ⟨b4, h⟩ := h
    refine w_iaload dX12_farOf_114 ⟨rfl, Or.inr ⟨rfl, by decide⟩⟩ b4 ?_
    refine w_ishl dX12_farOf_115 ?_
    refine w_goto 120 dX12_farOf_116 (by decide) ?_
    refine w_sub [1, 2, 3, 4, 5, 6] rfl ?_
    exact l_X12_farOf_120 rec12 hrec12 rec37 hrec37 _ _ _ _ _ _ _ _ _ h
set_option maxRecDepth 100000 in
set_option maxHeartbeats 4000000 in
theorem l_X12_farOf_37_b (rec12 : Int32 → Int32 → Int32 → Int32 → aSt → Option (Int32 × aSt)) (hrec12 : ∀ (x1 : Int32) (x2 : Int32) (x3 : Int32) (x4 : Int32) (σ : aSt) (o : Int32 × aSt), rec12 x1 x2 x3 x4 σ = some o → AW true m_X12_farOf 12 [(0, va_rf (some (57))), (1, Value.int (x1)), (2, Value.int (x2)), (3, Value.int (x3)), (4, Value.int (x4))] [] σ 0 0 (some (.int o.1)) o.2) (rec37 : Int32 → Int32 → Int32 → Int32 → Int32 → Int32 → aSt → Option (Int32 × aSt)) (hrec37 : ∀ (x1 : Int32) (x2 : Int32) (x3 : Int32) (x4 : Int32) (x5 : Int32) (x6 : Int32) (σ : aSt) (o : Int32 × aSt), rec37 x1 x2 x3 x4 x5 x6 σ = some o → AW true m_X12_farOf 37 [(0, va_rf (some (57))), (1, Value.int (x1)), (2, Value.int (x2)), (3, Value.int (x3)), (4, Value.int (x4)), (5, Value.int (x5)), (6, Value.int (x6))] [] σ 0 0 (some (.int o.1)) o.2) (x1 : Int32) (x2 : Int32) (x3 : Int32) (x4 : Int32) (x5 : Int32) (x6 : Int32) (σ : aSt) (o : Int32 × aSt) (h : f_X12_farOf_37_b rec12 rec37 x1 x2 x3 x4 x5 x6 σ = some o) : AW true m_X12_farOf 37 [(0, va_rf (some (57))), (1, Value.int (x1)), (2, Value.int (x2)), (3, Value.int (x3)), (4, Value.int (x4)), (5, Value.int (x5)), (6, Value.int (x6))] [] σ 0 0 (some (.int o.1)) o.2 := by
  unfold f_X12_farOf_37_b at h
  refine w_iload 6 dX12_farOf_37 rfl ?_
  refine w_aload_n 0 ((some (57))) dX12_farOf_39 rfl rfl ?_
  refine w_get dX12_farOf_40 fl_RX12_127 ⟨rfl, Or.inr ⟨rfl, by decide⟩⟩ (aFv_i rfl) ?_
  refine w_icmp_ge 129 dX12_farOf_43 (by decide) (fun c5 => ?_) (fun c5 => ?_)
  · replace h := e_t c5 h
    refine w_iload 5 dX12_farOf_129 rfl ?_
    refine w_istore_n dX12_farOf_131 rfl (by decide) rfl ?_
    refine w_iinc (q := 4) (v := x4 + 1) dX12_farOf_132 rfl rfl (by decide) rfl ?_
    refine w_goto 12 dX12_farOf_135 (by decide) ?_
    refine w_sub [2, 3, 4, 1, 0] rfl ?_
    exact hrec12 _ _ _ _ _ _ h
  · replace h := e_f c5 h
    refine w_aload_n 0 ((some (57))) dX12_farOf_46 rfl rfl ?_
    refine w_iload 6 dX12_farOf_47 rfl ?_
    refine w_iload_n 1 dX12_farOf_49 rfl rfl ?_
    refine w_iload_n 2 dX12_farOf_50 rfl rfl ?_
    replace h := e_bind h; obtain ⟨q6, e7, h⟩ := h
    refine w_callV1 (M2 := m_X12_isAhead) (av := [.int (x6), .int (x1), .int (x2)]) (ci := 12) (c_X12_isAhead _ _ _ _ _ e7) dX12_farOf_51 kd_X12_isAhead wd_21_2 wd_21_3 wd_21_4 rfl rfl ⟨rfl, Or.inr ⟨rfl, by decide⟩⟩ rfl ⟨Nat.le_of_ble_eq_true rfl, Nat.le_of_ble_eq_true rfl, Nat.le_of_ble_eq_true rfl, Nat.le_of_ble_eq_true rfl⟩ (Nat.le_of_ble_eq_true rfl) ?_
    refine w_if_eq 123 dX12_farOf_54 (by decide) (fun c8 => ?_) (fun c8 => ?_)
    · replace h := e_t c8 h
      exact l_X12_farOf_123 rec12 hrec12 rec37 hrec37 _ _ _ _ _ _ _ _ h
    · replace h := e_f c8 h
      refine w_iload 5 dX12_farOf_57 rfl ?_
      refine w_iload_n 3 dX12_farOf_59 rfl rfl ?_
      refine w_aload_n 0 ((some (57))) dX12_farOf_60 rfl rfl ?_
      refine w_get (v := va_rf (some 63)) dX12_farOf_61 fl_RX12_25 ⟨rfl, Or.inr ⟨rfl, by decide⟩⟩ (aFv_k rfl) ?_
      refine w_iload 6 dX12_farOf_64 rfl ?_
      replace h := e_grd h; obtain ⟨b9, h⟩ := h
      refine w_iaload dX12_farOf_66 ⟨rfl, Or.inr ⟨rfl, by decide⟩⟩ b9 ?_
      refine w_ishr dX12_farOf_67 ?_
      refine w_iconst (v := 1) dX12_farOf_68 (by decide) ?_
      refine w_iand dX12_farOf_69 ?_
      refine w_iconst (v := 1) dX12_farOf_70 (by decide) ?_
      refine w_icmp_ne 86 dX12_farOf_71 (by decide) (fun c10 => ?_) (fun c10 => ?_)
      · replace h := e_f c10 h
        refine w_iconst (v := 0) dX12_farOf_86 (by decide) ?_
        refine w_sub [0, 1, 2, 3, 4, 6] rfl ?_
        exact l_X12_farOf_87 rec12 hrec12 rec37 hrec37 _ _ _ _ _ _ _ _ _ h
      · replace h := e_t c10 h
        refine w_iconst (v := 1) dX12_farOf_74 (by decide) ?_
        refine w_aload_n 0 ((some (57))) dX12_farOf_75 rfl rfl ?_
        refine w_get (v := va_rf (some 64)) dX12_farOf_76 fl_RX12_28 ⟨rfl, Or.inr ⟨rfl, by decide⟩⟩ (aFv_k rfl) ?_
        refine w_iload 6 dX12_farOf_79 rfl ?_
        replace h := e_grd h; obtain ⟨b11, h⟩ := h
        refine w_iaload dX12_farOf_81 ⟨rfl, Or.inr ⟨rfl, by decide⟩⟩ b11 ?_
        refine w_ishl dX12_farOf_82 ?_
        refine w_goto 87 dX12_farOf_83 (by decide) ?_
        refine w_sub [0, 1, 2, 3, 4, 6] rfl ?_
        exact l_X12_farOf_87 rec12 hrec12 rec37 hrec37 _ _ _ _ _ _ _ _ _ h
theorem l_X12_farOf_37 (rec12 : Int32 → Int32 → Int32 → Int32 → aSt → Option (Int32 × aSt)) (hrec12 : ∀ (x1 : Int32) (x2 : Int32) (x3 : Int32) (x4 : Int32) (σ : aSt) (o : Int32 × aSt), rec12 x1 x2 x3 x4 σ = some o → AW true m_X12_farOf 12 [(0, va_rf (some (57))), (1, Value.int (x1)), (2, Value.int (x2)), (3, Value.int (x3)), (4, Value.int (x4))] [] σ 0 0 (some (.int o.1)) o.2) : ∀ (n : Nat) (x1 : Int32) (x2 : Int32) (x3 : Int32) (x4 : Int32) (x5 : Int32) (x6 : Int32) (σ : aSt) (o : Int32 × aSt), f_X12_farOf_37 rec12 n x1 x2 x3 x4 x5 x6 σ = some o → AW true m_X12_farOf 37 [(0, va_rf (some (57))), (1, Value.int (x1)), (2, Value.int (x2)), (3, Value.int (x3)), (4, Value.int (x4)), (5, Value.int (x5)), (6, Value.int (x6))] [] σ 0 0 (some (.int o.1)) o.2
  | 0 => fun x1 x2 x3 x4 x5 x6 σ o h => by cases h
  | n + 1 => fun x1 x2 x3 x4 x5 x6 σ o h => l_X12_farOf_37_b rec12 hrec12 (f_X12_farOf_37 rec12 n) (l_X12_farOf_37 rec12 hrec12 n) x1 x2 x3 x4 x5 x6 σ o h
set_option maxRecDepth 100000 in
set_option maxHeartbeats 4000000 in
theorem l_X12_farOf_12_b (rec12 : Int32 → Int32 → Int32 → Int32 → aSt → Option (Int32 × aSt)) (hrec12 : ∀ (x1 : Int32) (x2 : Int32) (x3 : Int32) (x4 : Int32) (σ : aSt) (o : Int32 × aSt), rec12 x1 x2 x3 x4 σ = some o → AW true m_X12_farOf 12 [(0, va_rf (some (57))), (1, Value.int (x1)), (2, Value.int (x2)), (3, Value.int (x3)), (4, Value.int (x4))] [] σ 0 0 (some (.int o.1)) o.2) (x1 : Int32) (x2 : Int32) (x3 : Int32) (x4 : Int32) (σ : aSt) (o : Int32 × aSt) (h : f_X12_farOf_12_b rec12 x1 x2 x3 x4 σ = some o) : AW true m_X12_farOf 12 [(0, va_rf (some (57))), (1, Value.int (x1)), (2, Value.int (x2)), (3, Value.int (x3)), (4, Value.int (x4))] [] σ 0 0 (some (.int o.1)) o.2 := by
  unfold f_X12_farOf_12_b at h
  refine w_iload 4 dX12_farOf_12 rfl ?_
  refine w_bipush (v := 9) dX12_farOf_14 (by decide) ?_
  refine w_icmp_ge 138 dX12_farOf_16 (by decide) (fun c12 => ?_) (fun c12 => ?_)
  · replace h := e_t c12 h
    refine w_bipush (v := 9) dX12_farOf_138 (by decide) ?_
    obtain rfl := Option.some.inj h
    exact w_ireturn dX12_farOf_140 rfl (Nat.le_of_ble_eq_true rfl) (Nat.le_of_ble_eq_true rfl)
  · replace h := e_f c12 h
    refine w_iload_n 3 dX12_farOf_19 rfl rfl ?_
    refine w_aload_n 0 ((some (57))) dX12_farOf_20 rfl rfl ?_
    refine w_get dX12_farOf_21 fl_RX12_155 ⟨rfl, Or.inr ⟨rfl, by decide⟩⟩ (aFv_i rfl) ?_
    refine w_iand dX12_farOf_24 ?_
    refine w_if_eq 31 dX12_farOf_25 (by decide) (fun c13 => ?_) (fun c13 => ?_)
    · replace h := e_t c13 h
      refine w_iload_n 3 dX12_farOf_31 rfl rfl ?_
      refine w_istore dX12_farOf_32 (by decide) rfl ?_
      refine w_iconst (v := 0) dX12_farOf_34 (by decide) ?_
      refine w_istore dX12_farOf_35 (by decide) rfl ?_
      refine w_sub [2, 3, 4, 5, 6, 1, 0] rfl ?_
      exact l_X12_farOf_37 rec12 hrec12 aN _ _ _ _ _ _ _ _ h
    · replace h := e_f c13 h
      refine w_iload 4 dX12_farOf_28 rfl ?_
      obtain rfl := Option.some.inj h
      exact w_ireturn dX12_farOf_30 rfl (Nat.le_of_ble_eq_true rfl) (Nat.le_of_ble_eq_true rfl)
theorem l_X12_farOf_12  : ∀ (n : Nat) (x1 : Int32) (x2 : Int32) (x3 : Int32) (x4 : Int32) (σ : aSt) (o : Int32 × aSt), f_X12_farOf_12  n x1 x2 x3 x4 σ = some o → AW true m_X12_farOf 12 [(0, va_rf (some (57))), (1, Value.int (x1)), (2, Value.int (x2)), (3, Value.int (x3)), (4, Value.int (x4))] [] σ 0 0 (some (.int o.1)) o.2
  | 0 => fun x1 x2 x3 x4 σ o h => by cases h
  | n + 1 => fun x1 x2 x3 x4 σ o h => l_X12_farOf_12_b (f_X12_farOf_12  n) (l_X12_farOf_12  n) x1 x2 x3 x4 σ o h
set_option maxRecDepth 100000 in
set_option maxHeartbeats 4000000 in
theorem c_X12_farOf (p1 : Int32) (p2 : Int32) (σ : aSt) (o : Int32 × aSt) (h : f_X12_farOf p1 p2 σ = some o) : AM true m_X12_farOf [va_rf (some (57)), .int (p1), .int (p2)] σ (some (.int o.1)) o.2 := by
  refine AM_of2 (lv := [(0, va_rf (some (57))), (1, Value.int (p1)), (2, Value.int (p2))]) (by decide +kernel) rfl (Nat.le_of_ble_eq_true rfl) ?_
  unfold f_X12_farOf at h
  refine w_iconst (v := 1) dX12_farOf_0 (by decide) ?_
  refine w_aload_n 0 ((some (57))) dX12_farOf_1 rfl rfl ?_
  refine w_get (v := va_rf (some 64)) dX12_farOf_2 fl_RX12_28 ⟨rfl, Or.inr ⟨rfl, by decide⟩⟩ (aFv_k rfl) ?_
  refine w_iload_n 1 dX12_farOf_5 rfl rfl ?_
  replace h := e_grd h; obtain ⟨b1, h⟩ := h
  refine w_iaload dX12_farOf_6 ⟨rfl, Or.inr ⟨rfl, by decide⟩⟩ b1 ?_
  refine w_ishl dX12_farOf_7 ?_
  refine w_istore_n dX12_farOf_8 rfl (by decide) rfl ?_
  refine w_iconst (v := 0) dX12_farOf_9 (by decide) ?_
  refine w_istore dX12_farOf_10 (by decide) rfl ?_
  refine w_sub [2, 3, 4, 1, 0] rfl ?_
  exact l_X12_farOf_12 aN _ _ _ _ _ _ h
theorem dX12_features_0 : decode cX12_features 0 = .ok (.iconst 0, 1) := by decide +kernel
theorem dX12_features_1 : decode cX12_features 1 = .ok (.istore 4, 2) := by decide +kernel
theorem dX12_features_3 : decode cX12_features 3 = .ok (.iconst 0, 1) := by decide +kernel
theorem dX12_features_4 : decode cX12_features 4 = .ok (.istore 5, 2) := by decide +kernel
theorem dX12_features_6 : decode cX12_features 6 = .ok (.iconst 1, 1) := by decide +kernel
theorem dX12_features_7 : decode cX12_features 7 = .ok (.aload_n 0, 1) := by decide +kernel
theorem dX12_features_8 : decode cX12_features 8 = .ok (.getfield 28, 3) := by decide +kernel
theorem dX12_features_11 : decode cX12_features 11 = .ok (.iload_n 1, 1) := by decide +kernel
theorem dX12_features_12 : decode cX12_features 12 = .ok (.iaload, 1) := by decide +kernel
theorem dX12_features_13 : decode cX12_features 13 = .ok (.ishl, 1) := by decide +kernel
theorem dX12_features_14 : decode cX12_features 14 = .ok (.istore 6, 2) := by decide +kernel
theorem dX12_features_16 : decode cX12_features 16 = .ok (.iconst 0, 1) := by decide +kernel
theorem dX12_features_17 : decode cX12_features 17 = .ok (.istore 7, 2) := by decide +kernel
theorem dX12_features_19 : decode cX12_features 19 = .ok (.iconst 0, 1) := by decide +kernel
theorem dX12_features_20 : decode cX12_features 20 = .ok (.istore 8, 2) := by decide +kernel
theorem dX12_features_22 : decode cX12_features 22 = .ok (.iconst 0, 1) := by decide +kernel
theorem dX12_features_23 : decode cX12_features 23 = .ok (.istore 9, 2) := by decide +kernel
theorem dX12_features_25 : decode cX12_features 25 = .ok (.iload 9, 2) := by decide +kernel
theorem dX12_features_27 : decode cX12_features 27 = .ok (.aload_n 0, 1) := by decide +kernel
theorem dX12_features_28 : decode cX12_features 28 = .ok (.getfield 127, 3) := by decide +kernel
theorem dX12_features_31 : decode cX12_features 31 = .ok (.if_icmp .ge 171, 3) := by decide +kernel
theorem dX12_features_34 : decode cX12_features 34 = .ok (.aload_n 0, 1) := by decide +kernel
theorem dX12_features_35 : decode cX12_features 35 = .ok (.iload 9, 2) := by decide +kernel
theorem dX12_features_37 : decode cX12_features 37 = .ok (.iload_n 1, 1) := by decide +kernel
theorem dX12_features_38 : decode cX12_features 38 = .ok (.iload_n 2, 1) := by decide +kernel
theorem dX12_features_39 : decode cX12_features 39 = .ok (.invokevirtual 158, 3) := by decide +kernel
theorem dX12_features_42 : decode cX12_features 42 = .ok (.ifCond .eq 154, 3) := by decide +kernel
theorem dX12_features_45 : decode cX12_features 45 = .ok (.aload_n 0, 1) := by decide +kernel
theorem dX12_features_46 : decode cX12_features 46 = .ok (.getfield 22, 3) := by decide +kernel
theorem dX12_features_49 : decode cX12_features 49 = .ok (.iload 9, 2) := by decide +kernel
theorem dX12_features_51 : decode cX12_features 51 = .ok (.iaload, 1) := by decide +kernel
theorem dX12_features_52 : decode cX12_features 52 = .ok (.aload_n 0, 1) := by decide +kernel
theorem dX12_features_53 : decode cX12_features 53 = .ok (.getfield 22, 3) := by decide +kernel
theorem dX12_features_56 : decode cX12_features 56 = .ok (.iload_n 1, 1) := by decide +kernel
theorem dX12_features_57 : decode cX12_features 57 = .ok (.iaload, 1) := by decide +kernel
theorem dX12_features_58 : decode cX12_features 58 = .ok (.aload_n 0, 1) := by decide +kernel
theorem dX12_features_59 : decode cX12_features 59 = .ok (.getfield 43, 3) := by decide +kernel
theorem dX12_features_62 : decode cX12_features 62 = .ok (.isub, 1) := by decide +kernel
theorem dX12_features_63 : decode cX12_features 63 = .ok (.if_icmp .le 7, 3) := by decide +kernel
theorem dX12_features_66 : decode cX12_features 66 = .ok (.iconst 1, 1) := by decide +kernel
theorem dX12_features_67 : decode cX12_features 67 = .ok (.goto 4, 3) := by decide +kernel
theorem dX12_features_70 : decode cX12_features 70 = .ok (.iconst 0, 1) := by decide +kernel
theorem dX12_features_71 : decode cX12_features 71 = .ok (.istore 10, 2) := by decide +kernel
theorem dX12_features_73 : decode cX12_features 73 = .ok (.iload 10, 2) := by decide +kernel
theorem dX12_features_75 : decode cX12_features 75 = .ok (.ifCond .eq 48, 3) := by decide +kernel
theorem dX12_features_78 : decode cX12_features 78 = .ok (.aload_n 0, 1) := by decide +kernel
theorem dX12_features_79 : decode cX12_features 79 = .ok (.getfield 25, 3) := by decide +kernel
theorem dX12_features_82 : decode cX12_features 82 = .ok (.iload 9, 2) := by decide +kernel
theorem dX12_features_84 : decode cX12_features 84 = .ok (.iaload, 1) := by decide +kernel
theorem dX12_features_85 : decode cX12_features 85 = .ok (.aload_n 0, 1) := by decide +kernel
theorem dX12_features_86 : decode cX12_features 86 = .ok (.getfield 25, 3) := by decide +kernel
theorem dX12_features_89 : decode cX12_features 89 = .ok (.iload_n 1, 1) := by decide +kernel
theorem dX12_features_90 : decode cX12_features 90 = .ok (.iaload, 1) := by decide +kernel
theorem dX12_features_91 : decode cX12_features 91 = .ok (.if_icmp .ne 32, 3) := by decide +kernel
theorem dX12_features_94 : decode cX12_features 94 = .ok (.iinc 4 1, 3) := by decide +kernel
theorem dX12_features_97 : decode cX12_features 97 = .ok (.iload 5, 2) := by decide +kernel
theorem dX12_features_99 : decode cX12_features 99 = .ok (.aload_n 0, 1) := by decide +kernel
theorem dX12_features_100 : decode cX12_features 100 = .ok (.getfield 31, 3) := by decide +kernel
theorem dX12_features_103 : decode cX12_features 103 = .ok (.iload 9, 2) := by decide +kernel
theorem dX12_features_105 : decode cX12_features 105 = .ok (.iaload, 1) := by decide +kernel
theorem dX12_features_106 : decode cX12_features 106 = .ok (.iadd, 1) := by decide +kernel
theorem dX12_features_107 : decode cX12_features 107 = .ok (.istore 5, 2) := by decide +kernel
theorem dX12_features_109 : decode cX12_features 109 = .ok (.iload 6, 2) := by decide +kernel
theorem dX12_features_111 : decode cX12_features 111 = .ok (.iconst 1, 1) := by decide +kernel
theorem dX12_features_112 : decode cX12_features 112 = .ok (.aload_n 0, 1) := by decide +kernel
theorem dX12_features_113 : decode cX12_features 113 = .ok (.getfield 28, 3) := by decide +kernel
theorem dX12_features_116 : decode cX12_features 116 = .ok (.iload 9, 2) := by decide +kernel
theorem dX12_features_118 : decode cX12_features 118 = .ok (.iaload, 1) := by decide +kernel
theorem dX12_features_119 : decode cX12_features 119 = .ok (.ishl, 1) := by decide +kernel
theorem dX12_features_120 : decode cX12_features 120 = .ok (.ior, 1) := by decide +kernel
theorem dX12_features_121 : decode cX12_features 121 = .ok (.istore 6, 2) := by decide +kernel
theorem dX12_features_123 : decode cX12_features 123 = .ok (.iload 7, 2) := by decide +kernel
theorem dX12_features_125 : decode cX12_features 125 = .ok (.aload_n 0, 1) := by decide +kernel
theorem dX12_features_126 : decode cX12_features 126 = .ok (.getfield 25, 3) := by decide +kernel
theorem dX12_features_129 : decode cX12_features 129 = .ok (.iload 9, 2) := by decide +kernel
theorem dX12_features_131 : decode cX12_features 131 = .ok (.iaload, 1) := by decide +kernel
theorem dX12_features_132 : decode cX12_features 132 = .ok (.aload_n 0, 1) := by decide +kernel
theorem dX12_features_133 : decode cX12_features 133 = .ok (.getfield 25, 3) := by decide +kernel
theorem dX12_features_136 : decode cX12_features 136 = .ok (.iload_n 1, 1) := by decide +kernel
theorem dX12_features_137 : decode cX12_features 137 = .ok (.iaload, 1) := by decide +kernel
theorem dX12_features_138 : decode cX12_features 138 = .ok (.if_icmp .ne 23, 3) := by decide +kernel
theorem dX12_features_141 : decode cX12_features 141 = .ok (.aload_n 0, 1) := by decide +kernel
theorem dX12_features_142 : decode cX12_features 142 = .ok (.getfield 28, 3) := by decide +kernel
theorem dX12_features_145 : decode cX12_features 145 = .ok (.iload 9, 2) := by decide +kernel
theorem dX12_features_147 : decode cX12_features 147 = .ok (.iaload, 1) := by decide +kernel
theorem dX12_features_148 : decode cX12_features 148 = .ok (.aload_n 0, 1) := by decide +kernel
theorem dX12_features_149 : decode cX12_features 149 = .ok (.getfield 28, 3) := by decide +kernel
theorem dX12_features_152 : decode cX12_features 152 = .ok (.iload_n 1, 1) := by decide +kernel
theorem dX12_features_153 : decode cX12_features 153 = .ok (.iaload, 1) := by decide +kernel
theorem dX12_features_154 : decode cX12_features 154 = .ok (.if_icmp .ne 7, 3) := by decide +kernel
theorem dX12_features_157 : decode cX12_features 157 = .ok (.iconst 1, 1) := by decide +kernel
theorem dX12_features_158 : decode cX12_features 158 = .ok (.goto 4, 3) := by decide +kernel
theorem dX12_features_161 : decode cX12_features 161 = .ok (.iconst 0, 1) := by decide +kernel
theorem dX12_features_162 : decode cX12_features 162 = .ok (.iadd, 1) := by decide +kernel
theorem dX12_features_163 : decode cX12_features 163 = .ok (.istore 7, 2) := by decide +kernel
theorem dX12_features_165 : decode cX12_features 165 = .ok (.iload 8, 2) := by decide +kernel
theorem dX12_features_167 : decode cX12_features 167 = .ok (.iload 10, 2) := by decide +kernel
theorem dX12_features_169 : decode cX12_features 169 = .ok (.ifCond .eq 23, 3) := by decide +kernel
theorem dX12_features_172 : decode cX12_features 172 = .ok (.aload_n 0, 1) := by decide +kernel
theorem dX12_features_173 : decode cX12_features 173 = .ok (.getfield 28, 3) := by decide +kernel
theorem dX12_features_176 : decode cX12_features 176 = .ok (.iload 9, 2) := by decide +kernel
theorem dX12_features_178 : decode cX12_features 178 = .ok (.iaload, 1) := by decide +kernel
theorem dX12_features_179 : decode cX12_features 179 = .ok (.aload_n 0, 1) := by decide +kernel
theorem dX12_features_180 : decode cX12_features 180 = .ok (.getfield 28, 3) := by decide +kernel
theorem dX12_features_183 : decode cX12_features 183 = .ok (.iload_n 1, 1) := by decide +kernel
theorem dX12_features_184 : decode cX12_features 184 = .ok (.iaload, 1) := by decide +kernel
theorem dX12_features_185 : decode cX12_features 185 = .ok (.if_icmp .ne 7, 3) := by decide +kernel
theorem dX12_features_188 : decode cX12_features 188 = .ok (.iconst 1, 1) := by decide +kernel
theorem dX12_features_189 : decode cX12_features 189 = .ok (.goto 4, 3) := by decide +kernel
theorem dX12_features_192 : decode cX12_features 192 = .ok (.iconst 0, 1) := by decide +kernel
theorem dX12_features_193 : decode cX12_features 193 = .ok (.iadd, 1) := by decide +kernel
theorem dX12_features_194 : decode cX12_features 194 = .ok (.istore 8, 2) := by decide +kernel
theorem dX12_features_196 : decode cX12_features 196 = .ok (.iinc 9 1, 3) := by decide +kernel
theorem dX12_features_199 : decode cX12_features 199 = .ok (.goto (-174), 3) := by decide +kernel
theorem dX12_features_202 : decode cX12_features 202 = .ok (.aload_n 0, 1) := by decide +kernel
theorem dX12_features_203 : decode cX12_features 203 = .ok (.getfield 56, 3) := by decide +kernel
theorem dX12_features_206 : decode cX12_features 206 = .ok (.iconst 0, 1) := by decide +kernel
theorem dX12_features_207 : decode cX12_features 207 = .ok (.iload_n 3, 1) := by decide +kernel
theorem dX12_features_208 : decode cX12_features 208 = .ok (.iastore, 1) := by decide +kernel
theorem dX12_features_209 : decode cX12_features 209 = .ok (.aload_n 0, 1) := by decide +kernel
theorem dX12_features_210 : decode cX12_features 210 = .ok (.getfield 56, 3) := by decide +kernel
theorem dX12_features_213 : decode cX12_features 213 = .ok (.iconst 1, 1) := by decide +kernel
theorem dX12_features_214 : decode cX12_features 214 = .ok (.aload_n 0, 1) := by decide +kernel
theorem dX12_features_215 : decode cX12_features 215 = .ok (.getfield 34, 3) := by decide +kernel
theorem dX12_features_218 : decode cX12_features 218 = .ok (.iload_n 1, 1) := by decide +kernel
theorem dX12_features_219 : decode cX12_features 219 = .ok (.iaload, 1) := by decide +kernel
theorem dX12_features_220 : decode cX12_features 220 = .ok (.iastore, 1) := by decide +kernel
theorem dX12_features_221 : decode cX12_features 221 = .ok (.aload_n 0, 1) := by decide +kernel
theorem dX12_features_222 : decode cX12_features 222 = .ok (.getfield 56, 3) := by decide +kernel
theorem dX12_features_225 : decode cX12_features 225 = .ok (.iconst 2, 1) := by decide +kernel
theorem dX12_features_226 : decode cX12_features 226 = .ok (.aload_n 0, 1) := by decide +kernel
theorem dX12_features_227 : decode cX12_features 227 = .ok (.getfield 22, 3) := by decide +kernel
theorem dX12_features_230 : decode cX12_features 230 = .ok (.iload_n 1, 1) := by decide +kernel
theorem dX12_features_231 : decode cX12_features 231 = .ok (.iaload, 1) := by decide +kernel
theorem dX12_features_232 : decode cX12_features 232 = .ok (.bipush 24, 2) := by decide +kernel
theorem dX12_features_234 : decode cX12_features 234 = .ok (.irem, 1) := by decide +kernel
theorem dX12_features_235 : decode cX12_features 235 = .ok (.iastore, 1) := by decide +kernel
theorem dX12_features_236 : decode cX12_features 236 = .ok (.aload_n 0, 1) := by decide +kernel
theorem dX12_features_237 : decode cX12_features 237 = .ok (.getfield 56, 3) := by decide +kernel
theorem dX12_features_240 : decode cX12_features 240 = .ok (.iconst 3, 1) := by decide +kernel
theorem dX12_features_241 : decode cX12_features 241 = .ok (.iload 4, 2) := by decide +kernel
theorem dX12_features_243 : decode cX12_features 243 = .ok (.iastore, 1) := by decide +kernel
theorem dX12_features_244 : decode cX12_features 244 = .ok (.aload_n 0, 1) := by decide +kernel
theorem dX12_features_245 : decode cX12_features 245 = .ok (.getfield 56, 3) := by decide +kernel
theorem dX12_features_248 : decode cX12_features 248 = .ok (.iconst 4, 1) := by decide +kernel
theorem dX12_features_249 : decode cX12_features 249 = .ok (.iload 5, 2) := by decide +kernel
theorem dX12_features_251 : decode cX12_features 251 = .ok (.iastore, 1) := by decide +kernel
theorem dX12_features_252 : decode cX12_features 252 = .ok (.aload_n 0, 1) := by decide +kernel
theorem dX12_features_253 : decode cX12_features 253 = .ok (.getfield 56, 3) := by decide +kernel
theorem dX12_features_256 : decode cX12_features 256 = .ok (.iconst 5, 1) := by decide +kernel
theorem dX12_features_257 : decode cX12_features 257 = .ok (.iload 6, 2) := by decide +kernel
theorem dX12_features_259 : decode cX12_features 259 = .ok (.invokestatic 166, 3) := by decide +kernel
theorem dX12_features_262 : decode cX12_features 262 = .ok (.iastore, 1) := by decide +kernel
theorem dX12_features_263 : decode cX12_features 263 = .ok (.aload_n 0, 1) := by decide +kernel
theorem dX12_features_264 : decode cX12_features 264 = .ok (.getfield 56, 3) := by decide +kernel
theorem dX12_features_267 : decode cX12_features 267 = .ok (.bipush 6, 2) := by decide +kernel
theorem dX12_features_269 : decode cX12_features 269 = .ok (.iload 7, 2) := by decide +kernel
theorem dX12_features_271 : decode cX12_features 271 = .ok (.iastore, 1) := by decide +kernel
theorem dX12_features_272 : decode cX12_features 272 = .ok (.aload_n 0, 1) := by decide +kernel
theorem dX12_features_273 : decode cX12_features 273 = .ok (.getfield 56, 3) := by decide +kernel
theorem dX12_features_276 : decode cX12_features 276 = .ok (.bipush 7, 2) := by decide +kernel
theorem dX12_features_278 : decode cX12_features 278 = .ok (.iload_n 3, 1) := by decide +kernel
theorem dX12_features_279 : decode cX12_features 279 = .ok (.bipush 100, 2) := by decide +kernel
theorem dX12_features_281 : decode cX12_features 281 = .ok (.imul, 1) := by decide +kernel
theorem dX12_features_282 : decode cX12_features 282 = .ok (.aload_n 0, 1) := by decide +kernel
theorem dX12_features_283 : decode cX12_features 283 = .ok (.iload_n 1, 1) := by decide +kernel
theorem dX12_features_284 : decode cX12_features 284 = .ok (.iload_n 2, 1) := by decide +kernel
theorem dX12_features_285 : decode cX12_features 285 = .ok (.invokevirtual 169, 3) := by decide +kernel
theorem dX12_features_288 : decode cX12_features 288 = .ok (.iconst 1, 1) := by decide +kernel
theorem dX12_features_289 : decode cX12_features 289 = .ok (.iadd, 1) := by decide +kernel
theorem dX12_features_290 : decode cX12_features 290 = .ok (.idiv, 1) := by decide +kernel
theorem dX12_features_291 : decode cX12_features 291 = .ok (.iastore, 1) := by decide +kernel
theorem dX12_features_292 : decode cX12_features 292 = .ok (.aload_n 0, 1) := by decide +kernel
theorem dX12_features_293 : decode cX12_features 293 = .ok (.getfield 56, 3) := by decide +kernel
theorem dX12_features_296 : decode cX12_features 296 = .ok (.bipush 8, 2) := by decide +kernel
theorem dX12_features_298 : decode cX12_features 298 = .ok (.aload_n 0, 1) := by decide +kernel
theorem dX12_features_299 : decode cX12_features 299 = .ok (.iload_n 1, 1) := by decide +kernel
theorem dX12_features_300 : decode cX12_features 300 = .ok (.iload_n 2, 1) := by decide +kernel
theorem dX12_features_301 : decode cX12_features 301 = .ok (.invokevirtual 172, 3) := by decide +kernel
theorem dX12_features_304 : decode cX12_features 304 = .ok (.iastore, 1) := by decide +kernel
theorem dX12_features_305 : decode cX12_features 305 = .ok (.aload_n 0, 1) := by decide +kernel
theorem dX12_features_306 : decode cX12_features 306 = .ok (.getfield 56, 3) := by decide +kernel
theorem dX12_features_309 : decode cX12_features 309 = .ok (.bipush 9, 2) := by decide +kernel
theorem dX12_features_311 : decode cX12_features 311 = .ok (.iload 8, 2) := by decide +kernel
theorem dX12_features_313 : decode cX12_features 313 = .ok (.iastore, 1) := by decide +kernel
theorem dX12_features_314 : decode cX12_features 314 = .ok (.return_, 1) := by decide +kernel
theorem kd_X12_features : aKd m_X12_features 3 := ⟨wd_21_1, wd_1_5, ⟨by decide +kernel, by decide +kernel, by decide +kernel⟩⟩
set_option maxRecDepth 100000 in
set_option maxHeartbeats 4000000 in
theorem l_X12_features_196 (rec25 : Int32 → Int32 → Int32 → Int32 → Int32 → Int32 → Int32 → Int32 → Int32 → aSt → Option (Unit × aSt)) (hrec25 : ∀ (x1 : Int32) (x2 : Int32) (x3 : Int32) (x4 : Int32) (x5 : Int32) (x6 : Int32) (x7 : Int32) (x8 : Int32) (x9 : Int32) (σ : aSt) (o : Unit × aSt), rec25 x1 x2 x3 x4 x5 x6 x7 x8 x9 σ = some o → AW true m_X12_features 25 [(0, va_rf (some (57))), (1, Value.int (x1)), (2, Value.int (x2)), (3, Value.int (x3)), (4, Value.int (x4)), (5, Value.int (x5)), (6, Value.int (x6)), (7, Value.int (x7)), (8, Value.int (x8)), (9, Value.int (x9))] [] σ 0 0 none o.2) (x1 : Int32) (x2 : Int32) (x3 : Int32) (x4 : Int32) (x5 : Int32) (x6 : Int32) (x7 : Int32) (x8 : Int32) (x9 : Int32) (σ : aSt) (o : Unit × aSt) (h : f_X12_features_196 rec25 x1 x2 x3 x4 x5 x6 x7 x8 x9 σ = some o) : AW true m_X12_features 196 [(0, va_rf (some (57))), (1, Value.int (x1)), (2, Value.int (x2)), (3, Value.int (x3)), (4, Value.int (x4)), (5, Value.int (x5)), (6, Value.int (x6)), (7, Value.int (x7)), (8, Value.int (x8)), (9, Value.int (x9))] [] σ 0 0 none o.2 := by
  unfold f_X12_features_196 at h
  refine w_iinc (q := 9) (v := x9 + 1) dX12_features_196 rfl rfl (by decide) rfl ?_
  refine w_goto 25 dX12_features_199 (by decide) ?_
  refine w_sub [1, 2, 3, 4, 5, 6, 7, 8, 9, 0] rfl ?_
  exact hrec25 _ _ _ _ _ _ _ _ _ _ _ h
set_option maxRecDepth 100000 in
set_option maxHeartbeats 4000000 in
theorem l_X12_features_193 (rec25 : Int32 → Int32 → Int32 → Int32 → Int32 → Int32 → Int32 → Int32 → Int32 → aSt → Option (Unit × aSt)) (hrec25 : ∀ (x1 : Int32) (x2 : Int32) (x3 : Int32) (x4 : Int32) (x5 : Int32) (x6 : Int32) (x7 : Int32) (x8 : Int32) (x9 : Int32) (σ : aSt) (o : Unit × aSt), rec25 x1 x2 x3 x4 x5 x6 x7 x8 x9 σ = some o → AW true m_X12_features 25 [(0, va_rf (some (57))), (1, Value.int (x1)), (2, Value.int (x2)), (3, Value.int (x3)), (4, Value.int (x4)), (5, Value.int (x5)), (6, Value.int (x6)), (7, Value.int (x7)), (8, Value.int (x8)), (9, Value.int (x9))] [] σ 0 0 none o.2) (x1 : Int32) (x2 : Int32) (x3 : Int32) (x4 : Int32) (x5 : Int32) (x6 : Int32) (x7 : Int32) (x9 : Int32) (t0 : Int32) (t1 : Int32) (σ : aSt) (o : Unit × aSt) (h : f_X12_features_193 rec25 x1 x2 x3 x4 x5 x6 x7 x9 t0 t1 σ = some o) : AW true m_X12_features 193 [(0, va_rf (some (57))), (1, Value.int (x1)), (2, Value.int (x2)), (3, Value.int (x3)), (4, Value.int (x4)), (5, Value.int (x5)), (6, Value.int (x6)), (7, Value.int (x7)), (9, Value.int (x9))] [.int (t1), .int (t0)] σ 0 0 none o.2 := by
  unfold f_X12_features_193 at h
  refine w_iadd dX12_features_193 ?_
  refine w_istore dX12_features_194 (by decide) rfl ?_
  refine w_sub [1, 2, 3, 4, 5, 6, 7, 8, 0, 9] rfl ?_
  exact l_X12_features_196 rec25 hrec25 _ _ _ _ _ _ _ _ _ _ _ h
set_option maxRecDepth 100000 in
set_option maxHeartbeats 4000000 in
theorem l_X12_features_192 (rec25 : Int32 → Int32 → Int32 → Int32 → Int32 → Int32 → Int32 → Int32 → Int32 → aSt → Option (Unit × aSt)) (hrec25 : ∀ (x1 : Int32) (x2 : Int32) (x3 : Int32) (x4 : Int32) (x5 : Int32) (x6 : Int32) (x7 : Int32) (x8 : Int32) (x9 : Int32) (σ : aSt) (o : Unit × aSt), rec25 x1 x2 x3 x4 x5 x6 x7 x8 x9 σ = some o → AW true m_X12_features 25 [(0, va_rf (some (57))), (1, Value.int (x1)), (2, Value.int (x2)), (3, Value.int (x3)), (4, Value.int (x4)), (5, Value.int (x5)), (6, Value.int (x6)), (7, Value.int (x7)), (8, Value.int (x8)), (9, Value.int (x9))] [] σ 0 0 none o.2) (x1 : Int32) (x2 : Int32) (x3 : Int32) (x4 : Int32) (x5 : Int32) (x6 : Int32) (x7 : Int32) (x9 : Int32) (t0 : Int32) (σ : aSt) (o : Unit × aSt) (h : f_X12_features_192 rec25 x1 x2 x3 x4 x5 x6 x7 x9 t0 σ = some o) : AW true m_X12_features 192 [(0, va_rf (some (57))), (1, Value.int (x1)), (2, Value.int (x2)), (3, Value.int (x3)), (4, Value.int (x4)), (5, Value.int (x5)), (6, Value.int (x6)), (7, Value.int (x7)), (9, Value.int (x9))] [.int (t0)] σ 0 0 none o.2 := by
  unfold f_X12_features_192 at h
  refine w_iconst (v := 0) dX12_features_192 (by decide) ?_
  exact l_X12_features_193 rec25 hrec25 _ _ _ _ _ _ _ _ _ _ _ _ h
set_option maxRecDepth 100000 in
set_option maxHeartbeats 4000000 in
theorem l_X12_features_162 (rec25 : Int32 → Int32 → Int32 → Int32 → Int32 → Int32 → Int32 → Int32 → Int32 → aSt → Option (Unit × aSt)) (hrec25 : ∀ (x1 : Int32) (x2 : Int32) (x3 : Int32) (x4 : Int32) (x5 : Int32) (x6 : Int32) (x7 : Int32) (x8 : Int32) (x9 : Int32) (σ : aSt) (o : Unit × aSt), rec25 x1 x2 x3 x4 x5 x6 x7 x8 x9 σ = some o → AW true m_X12_features 25 [(0, va_rf (some (57))), (1, Value.int (x1)), (2, Value.int (x2)), (3, Value.int (x3)), (4, Value.int (x4)), (5, Value.int (x5)), (6, Value.int (x6)), (7, Value.int (x7)), (8, Value.int (x8)), (9, Value.int (x9))] [] σ 0 0 none o.2) (x1 : Int32) (x2 : Int32) (x3 : Int32) (x4 : Int32) (x5 : Int32) (x6 : Int32) (x8 : Int32) (x9 : Int32) (x10 : Int32) (t0 : Int32) (t1 : Int32) (σ : aSt) (o : Unit × aSt) (h : f_X12_features_162 rec25 x1 x2 x3 x4 x5 x6 x8 x9 x10 t0 t1 σ = some o) : AW true m_X12_features 162 [(0, va_rf (some (57))), (1, Value.int (x1)), (2, Value.int (x2)), (3, Value.int (x3)), (4, Value.int (x4)), (5, Value.int (x5)), (6, Value.int (x6)), (8, Value.int (x8)), (9, Value.int (x9)), (10, Value.int (x10))] [.int (t1), .int (t0)] σ 0 0 none o.2 := by
  unfold f_X12_features_162 at h
  refine w_iadd dX12_features_162 ?_
  refine w_istore dX12_features_163 (by decide) rfl ?_
  refine w_iload 8 dX12_features_165 rfl ?_
  refine w_iload 10 dX12_features_167 rfl ?_
  refine w_if_eq 192 dX12_features_169 (by decide) (fun c16 => ?_) (fun c16 => ?_)
  · replace h := e_t c16 h
    refine w_sub [1, 2, 3, 4, 5, 6, 7, 0, 9] rfl ?_
    exact l_X12_features_192 rec25 hrec25 _ _ _ _ _ _ _ _ _ _ _ h
  · replace h := e_f c16 h
    refine w_aload_n 1 ((some (57))) dX12_features_172 rfl rfl ?_
    refine w_get (v := va_rf (some 64)) dX12_features_173 fl_RX12_28 ⟨rfl, Or.inr ⟨rfl, by decide⟩⟩ (aFv_k rfl) ?_
    refine w_iload 9 dX12_features_176 rfl ?_
    replace h := e_grd h; obtain ⟨b17, h⟩ := h
    refine w_iaload dX12_features_178 ⟨rfl, Or.inr ⟨rfl, by decide⟩⟩ b17 ?_
    refine w_aload_n 1 ((some (57))) dX12_features_179 rfl rfl ?_
    refine w_get (v := va_rf (some 64)) dX12_features_180 fl_RX12_28 ⟨rfl, Or.inr ⟨rfl, by decide⟩⟩ (aFv_k rfl) ?_
    refine w_iload_n 2 dX12_features_183 rfl rfl ?_
    replace h := e_grd h; obtain ⟨b18, h⟩ := h
    refine w_iaload dX12_features_184 ⟨rfl, Or.inr ⟨rfl, by decide⟩⟩ b18 ?_
    refine w_icmp_ne 192 dX12_features_185 (by decide) (fun c19 => ?_) (fun c19 => ?_)
    · replace h := e_f c19 h
      refine w_sub [1, 2, 3, 4, 5, 6, 7, 0, 9] rfl ?_
      exact l_X12_features_192 rec25 hrec25 _ _ _ _ _ _ _ _ _ _ _ h
    · replace h := e_t c19 h
      refine w_iconst (v := 1) dX12_features_188 (by decide) ?_
      refine w_goto 193 dX12_features_189 (by decide) ?_
      refine w_sub [1, 2, 3, 4, 5, 6, 7, 0, 9] rfl ?_
      exact l_X12_features_193 rec25 hrec25 _ _ _ _ _ _ _ _ _ _ _ _ h
set_option maxRecDepth 100000 in
set_option maxHeartbeats 4000000 in
theorem l_X12_features_161 (rec25 : Int32 → Int32 → Int32 → Int32 → Int32 → Int32 → Int32 → Int32 → Int32 → aSt → Option (Unit × aSt)) (hrec25 : ∀ (x1 : Int32) (x2 : Int32) (x3 : Int32) (x4 : Int32) (x5 : Int32) (x6 : Int32) (x7 : Int32) (x8 : Int32) (x9 : Int32) (σ : aSt) (o : Unit × aSt), rec25 x1 x2 x3 x4 x5 x6 x7 x8 x9 σ = some o → AW true m_X12_features 25 [(0, va_rf (some (57))), (1, Value.int (x1)), (2, Value.int (x2)), (3, Value.int (x3)), (4, Value.int (x4)), (5, Value.int (x5)), (6, Value.int (x6)), (7, Value.int (x7)), (8, Value.int (x8)), (9, Value.int (x9))] [] σ 0 0 none o.2) (x1 : Int32) (x2 : Int32) (x3 : Int32) (x4 : Int32) (x5 : Int32) (x6 : Int32) (x8 : Int32) (x9 : Int32) (x10 : Int32) (t0 : Int32) (σ : aSt) (o : Unit × aSt) (h : f_X12_features_161 rec25 x1 x2 x3 x4 x5 x6 x8 x9 x10 t0 σ = some o) : AW true m_X12_features 161 [(0, va_rf (some (57))), (1, Value.int (x1)), (2, Value.int (x2)), (3, Value.int (x3)), (4, Value.int (x4)), (5, Value.int (x5)), (6, Value.int (x6)), (8, Value.int (x8)), (9, Value.int (x9)), (10, Value.int (x10))] [.int (t0)] σ 0 0 none o.2 := by
  unfold f_X12_features_161 at h
  refine w_iconst (v := 0) dX12_features_161 (by decide) ?_
  exact l_X12_features_162 rec25 hrec25 _ _ _ _ _ _ _ _ _ _ _ _ _ h
set_option maxRecDepth 100000 in
set_option maxHeartbeats 4000000 in
theorem l_X12_features_123 (rec25 : Int32 → Int32 → Int32 → Int32 → Int32 → Int32 → Int32 → Int32 → Int32 → aSt → Option (Unit × aSt)) (hrec25 : ∀ (x1 : Int32) (x2 : Int32) (x3 : Int32) (x4 : Int32) (x5 : Int32) (x6 : Int32) (x7 : Int32) (x8 : Int32) (x9 : Int32) (σ : aSt) (o : Unit × aSt), rec25 x1 x2 x3 x4 x5 x6 x7 x8 x9 σ = some o → AW true m_X12_features 25 [(0, va_rf (some (57))), (1, Value.int (x1)), (2, Value.int (x2)), (3, Value.int (x3)), (4, Value.int (x4)), (5, Value.int (x5)), (6, Value.int (x6)), (7, Value.int (x7)), (8, Value.int (x8)), (9, Value.int (x9))] [] σ 0 0 none o.2) (x1 : Int32) (x2 : Int32) (x3 : Int32) (x4 : Int32) (x5 : Int32) (x6 : Int32) (x7 : Int32) (x8 : Int32) (x9 : Int32) (x10 : Int32) (σ : aSt) (o : Unit × aSt) (h : f_X12_features_123 rec25 x1 x2 x3 x4 x5 x6 x7 x8 x9 x10 σ = some o) : AW true m_X12_features 123 [(0, va_rf (some (57))), (1, Value.int (x1)), (2, Value.int (x2)), (3, Value.int (x3)), (4, Value.int (x4)), (5, Value.int (x5)), (6, Value.int (x6)), (7, Value.int (x7)), (8, Value.int (x8)), (9, Value.int (x9)), (10, Value.int (x10))] [] σ 0 0 none o.2 := by
  unfold f_X12_features_123 at h
  refine w_iload 7 dX12_features_123 rfl ?_
  refine w_aload_n 0 ((some (57))) dX12_features_125 rfl rfl ?_
  refine w_get (v := va_rf (some 63)) dX12_features_126 fl_RX12_25 ⟨rfl, Or.inr ⟨rfl, by decide⟩⟩ (aFv_k rfl) ?_
  refine w_iload 9 dX12_features_129 rfl ?_
  replace h := e_grd h; obtain ⟨b20, h⟩ := h
  refine w_iaload dX12_features_131 ⟨rfl, Or.inr ⟨rfl, by decide⟩⟩ b20 ?_
  refine w_aload_n 0 ((some (57))) dX12_features_132 rfl rfl ?_
  refine w_get (v := va_rf (some 63)) dX12_features_133 fl_RX12_25 ⟨rfl, Or.inr ⟨rfl, by decide⟩⟩ (aFv_k rfl) ?_
  refine w_iload_n 1 dX12_features_136 rfl rfl ?_
  replace h := e_grd h; obtain ⟨b21, h⟩ := h
  refine w_iaload dX12_features_137 ⟨rfl, Or.inr ⟨rfl, by decide⟩⟩ b21 ?_
  refine w_icmp_ne 161 dX12_features_138 (by decide) (fun c22 => ?_) (fun c22 => ?_)
  · replace h := e_f c22 h
    refine w_sub [0, 1, 2, 3, 4, 5, 6, 8, 9, 10] rfl ?_
    exact l_X12_features_161 rec25 hrec25 _ _ _ _ _ _ _ _ _ _ _ _ h
  · replace h := e_t c22 h
    refine w_aload_n 0 ((some (57))) dX12_features_141 rfl rfl ?_
    refine w_get (v := va_rf (some 64)) dX12_features_142 fl_RX12_28 ⟨rfl, Or.inr ⟨rfl, by decide⟩⟩ (aFv_k rfl) ?_
    refine w_iload 9 dX12_features_145 rfl ?_
    replace h := e_grd h; obtain ⟨b23, h⟩ := h
    refine w_iaload dX12_features_147 ⟨rfl, Or.inr ⟨rfl, by decide⟩⟩ b23 ?_
    refine w_aload_n 0 ((some (57))) dX12_features_148 rfl rfl ?_
    refine w_get (v := va_rf (some 64)) dX12_features_149 fl_RX12_28 ⟨rfl, Or.inr ⟨rfl, by decide⟩⟩ (aFv_k rfl) ?_
    refine w_iload_n 1 dX12_features_152 rfl rfl ?_
    replace h := e_grd h; obtain ⟨b24, h⟩ := h
    refine w_iaload dX12_features_153 ⟨rfl, Or.inr ⟨rfl, by decide⟩⟩ b24 ?_
    refine w_icmp_ne 161 dX12_features_154 (by decide) (fun c25 => ?_) (fun c25 => ?_)
    · replace h := e_f c25 h
      refine w_sub [0, 1, 2, 3, 4, 5, 6, 8, 9, 10] rfl ?_
      exact l_X12_features_161 rec25 hrec25 _ _ _ _ _ _ _ _ _ _ _ _ h
    · replace h := e_t c25 h
      refine w_iconst (v := 1) dX12_features_157 (by decide) ?_
      refine w_goto 162 dX12_features_158 (by decide) ?_
      refine w_sub [0, 1, 2, 3, 4, 5, 6, 8, 9, 10] rfl ?_
      exact l_X12_features_162 rec25 hrec25 _ _ _ _ _ _ _ _ _ _ _ _ _ h
set_option maxRecDepth 100000 in
set_option maxHeartbeats 4000000 in
theorem l_X12_features_71 (rec25 : Int32 → Int32 → Int32 → Int32 → Int32 → Int32 → Int32 → Int32 → Int32 → aSt → Option (Unit × aSt)) (hrec25 : ∀ (x1 : Int32) (x2 : Int32) (x3 : Int32) (x4 : Int32) (x5 : Int32) (x6 : Int32) (x7 : Int32) (x8 : Int32) (x9 : Int32) (σ : aSt) (o : Unit × aSt), rec25 x1 x2 x3 x4 x5 x6 x7 x8 x9 σ = some o → AW true m_X12_features 25 [(0, va_rf (some (57))), (1, Value.int (x1)), (2, Value.int (x2)), (3, Value.int (x3)), (4, Value.int (x4)), (5, Value.int (x5)), (6, Value.int (x6)), (7, Value.int (x7)), (8, Value.int (x8)), (9, Value.int (x9))] [] σ 0 0 none o.2) (x1 : Int32) (x2 : Int32) (x3 : Int32) (x4 : Int32) (x5 : Int32) (x6 : Int32) (x7 : Int32) (x8 : Int32) (x9 : Int32) (t0 : Int32) (σ : aSt) (o : Unit × aSt) (h : f_X12_features_71 rec25 x1 x2 x3 x4 x5 x6 x7 x8 x9 t0 σ = some o) : AW true m_X12_features 71 [(0, va_rf (some (57))), (1, Value.int (x1)), (2, Value.int (x2)), (3, Value.int (x3)), (4, Value.int (x4)), (5, Value.int (x5)), (6, Value.int (x6)), (7, Value.int (x7)), (8, Value.int (x8)), (9, Value.int (x9))] [.int (t0)] σ 0 0 none o.2 := by
  unfold f_X12_features_71 at h
  refine w_istore dX12_features_71 (by decide) rfl ?_
  refine w_iload 0 dX12_features_73 rfl ?_
  refine w_if_eq 123 dX12_features_75 (by decide) (fun c26 => ?_) (fun c26 => ?_)
  · replace h := e_t c26 h
    refine w_sub [1, 2, 3, 4, 5, 6, 7, 8, 9, 10, 0] rfl ?_
    exact l_X12_features_123 rec25 hrec25 _ _ _ _ _ _ _ _ _ _ _ _ h
  · replace h := e_f c26 h
    refine w_aload_n 1 ((some (57))) dX12_features_78 rfl rfl ?_
    refine w_get (v := va_rf (some 63)) dX12_features_79 fl_RX12_25 ⟨rfl, Or.inr ⟨rfl, by decide⟩⟩ (aFv_k rfl) ?_
    refine w_iload 10 dX12_features_82 rfl ?_
    replace h := e_grd h; obtain ⟨b27, h⟩ := h
    refine w_iaload dX12_features_84 ⟨rfl, Or.inr ⟨rfl, by decide⟩⟩ b27 ?_
    refine w_aload_n 1 ((some (57))) dX12_features_85 rfl rfl ?_
    refine w_get (v := va_rf (some 63)) dX12_features_86 fl_RX12_25 ⟨rfl, Or.inr ⟨rfl, by decide⟩⟩ (aFv_k rfl) ?_
    refine w_iload_n 2 dX12_features_89 rfl rfl ?_
    replace h := e_grd h; obtain ⟨b28, h⟩ := h
    refine w_iaload dX12_features_90 ⟨rfl, Or.inr ⟨rfl, by decide⟩⟩ b28 ?_
    refine w_icmp_ne 123 dX12_features_91 (by decide) (fun c29 => ?_) (fun c29 => ?_)
    · replace h := e_f c29 h
      refine w_sub [1, 2, 3, 4, 5, 6, 7, 8, 9, 10, 0] rfl ?_
      exact l_X12_features_123 rec25 hrec25 _ _ _ _ _ _ _ _ _ _ _ _ h
    · replace h := e_t c29 h
      refine w_iinc (q := 5) (v := x4 + 1) dX12_features_94 rfl rfl (by decide) rfl ?_
      refine w_iload 6 dX12_features_97 rfl ?_
      refine w_aload_n 2 ((some (57))) dX12_features_99 rfl rfl ?_
      refine w_get (v := va_rf (some 65)) dX12_features_100 fl_RX12_31 ⟨rfl, Or.inr ⟨rfl, by decide⟩⟩ (aFv_k rfl) ?_
      refine w_iload 10 dX12_features_103 rfl ?_
      replace h := e_grd h; obtain ⟨b30, h⟩ := h
      refine w_iaload dX12_features_105 ⟨rfl, Or.inr ⟨rfl, by decide⟩⟩ b30 ?_
      refine w_iadd dX12_features_106 ?_
      refine w_istore dX12_features_107 (by decide) rfl ?_
      refine w_iload 7 dX12_features_109 rfl ?_
      refine w_iconst (v := 1) dX12_features_111 (by decide) ?_
      refine w_aload_n 3 ((some (57))) dX12_features_112 rfl rfl ?_
      refine w_get (v := va_rf (some 64)) dX12_features_113 fl_RX12_28 ⟨rfl, Or.inr ⟨rfl, by decide⟩⟩ (aFv_k rfl) ?_
      refine w_iload 10 dX12_features_116 rfl ?_
      replace h := e_grd h; obtain ⟨b31, h⟩ := h
      refine w_iaload dX12_features_118 ⟨rfl, Or.inr ⟨rfl, by decide⟩⟩ b31 ?_
      refine w_ishl dX12_features_119 ?_
      refine w_ior dX12_features_120 ?_
      refine w_istore dX12_features_121 (by decide) rfl ?_
      refine w_sub [4, 5, 6, 7, 2, 1, 0, 8, 9, 10, 3] rfl ?_
      exact l_X12_features_123 rec25 hrec25 _ _ _ _ _ _ _ _ _ _ _ _ h
set_option maxRecDepth 100000 in
set_option maxHeartbeats 4000000 in
theorem l_X12_features_236  (x1 : Int32) (x2 : Int32) (x3 : Int32) (x4 : Int32) (x5 : Int32) (x6 : Int32) (x7 : Int32) (x8 : Int32) (σ : aSt) (o : Unit × aSt) (h : f_X12_features_236  x1 x2 x3 x4 x5 x6 x7 x8 σ = some o) : AW true m_X12_features 236 [(0, va_rf (some (57))), (1, Value.int (x1)), (2, Value.int (x2)), (3, Value.int (x3)), (4, Value.int (x4)), (5, Value.int (x5)), (6, Value.int (x6)), (7, Value.int (x7)), (8, Value.int (x8))] [] σ 0 0 none o.2 := by
  unfold f_X12_features_236 at h
  refine w_aload_n 0 ((some (57))) dX12_features_236 rfl rfl ?_
  refine w_get (v := va_rf (some 69)) dX12_features_237 fl_RX12_56 ⟨rfl, Or.inr ⟨rfl, by decide⟩⟩ (aFv_k rfl) ?_
  refine w_iconst (v := 3) dX12_features_240 (by decide) ?_
  refine w_iload 4 dX12_features_241 rfl ?_
  refine w_iastore dX12_features_243 ⟨rfl, Or.inr ⟨rfl, by decide⟩⟩ (by decide) ?_
  refine w_aload_n 0 ((some (57))) dX12_features_244 rfl rfl ?_
  refine w_get (v := va_rf (some 69)) dX12_features_245 fl_RX12_56 ⟨rfl, Or.inr ⟨rfl, by decide⟩⟩ (aFv_k rfl) ?_
  refine w_iconst (v := 4) dX12_features_248 (by decide) ?_
  refine w_iload 5 dX12_features_249 rfl ?_
  refine w_iastore dX12_features_251 ⟨rfl, Or.inr ⟨rfl, by decide⟩⟩ (by decide) ?_
  refine w_aload_n 0 ((some (57))) dX12_features_252 rfl rfl ?_
  refine w_get (v := va_rf (some 69)) dX12_features_253 fl_RX12_56 ⟨rfl, Or.inr ⟨rfl, by decide⟩⟩ (aFv_k rfl) ?_
  refine w_iconst (v := 5) dX12_features_256 (by decide) ?_
  refine w_iload 6 dX12_features_257 rfl ?_
  replace h := e_bind h; obtain ⟨q4, e5, h⟩ := h
  refine w_callS1 (M2 := m_X12_bits) (av := [.int (x6)]) (c_X12_bits _ _ _ e5) dX12_features_259 kd_X12_bits wd_21_6 wd_21_7 rfl rfl ⟨Nat.le_of_ble_eq_true rfl, Nat.le_of_ble_eq_true rfl, Nat.le_of_ble_eq_true rfl, Nat.le_of_ble_eq_true rfl⟩ (Nat.le_of_ble_eq_true rfl) ?_
  refine w_iastore dX12_features_262 ⟨rfl, Or.inr ⟨rfl, by decide⟩⟩ (by decide) ?_
  refine w_aload_n 0 ((some (57))) dX12_features_263 rfl rfl ?_
  refine w_get (v := va_rf (some 69)) dX12_features_264 fl_RX12_56 ⟨rfl, Or.inr ⟨rfl, by decide⟩⟩ (aFv_k rfl) ?_
  refine w_bipush (v := 6) dX12_features_267 (by decide) ?_
  refine w_iload 7 dX12_features_269 rfl ?_
  refine w_iastore dX12_features_271 ⟨rfl, Or.inr ⟨rfl, by decide⟩⟩ (by decide) ?_
  refine w_aload_n 0 ((some (57))) dX12_features_272 rfl rfl ?_
  refine w_get (v := va_rf (some 69)) dX12_features_273 fl_RX12_56 ⟨rfl, Or.inr ⟨rfl, by decide⟩⟩ (aFv_k rfl) ?_
  refine w_bipush (v := 7) dX12_features_276 (by decide) ?_
  refine w_iload_n 3 dX12_features_278 rfl rfl ?_
  refine w_bipush (v := 100) dX12_features_279 (by decide) ?_
  refine w_imul dX12_features_281 ?_
  refine w_aload_n 0 ((some (57))) dX12_features_282 rfl rfl ?_
  refine w_iload_n 1 dX12_features_283 rfl rfl ?_
  refine w_iload_n 2 dX12_features_284 rfl rfl ?_
  replace h := e_bind h; obtain ⟨q8, e9, h⟩ := h
  refine w_callV1 (M2 := m_X12_profileOf) (av := [.int (x1), .int (x2)]) (ci := 12) (c_X12_profileOf _ _ _ _ e9) dX12_features_285 kd_X12_profileOf wd_21_9 wd_21_10 wd_21_11 rfl rfl ⟨rfl, Or.inr ⟨rfl, by decide⟩⟩ rfl ⟨Nat.le_of_ble_eq_true rfl, Nat.le_of_ble_eq_true rfl, Nat.le_of_ble_eq_true rfl, Nat.le_of_ble_eq_true rfl⟩ (Nat.le_of_ble_eq_true rfl) ?_
  refine w_iconst (v := 1) dX12_features_288 (by decide) ?_
  refine w_iadd dX12_features_289 ?_
  replace h := e_grd h; obtain ⟨g10, h⟩ := h
  refine w_idiv dX12_features_290 g10 ?_
  refine w_iastore dX12_features_291 ⟨rfl, Or.inr ⟨rfl, by decide⟩⟩ (by decide) ?_
  refine w_aload_n 0 ((some (57))) dX12_features_292 rfl rfl ?_
  refine w_get (v := va_rf (some 69)) dX12_features_293 fl_RX12_56 ⟨rfl, Or.inr ⟨rfl, by decide⟩⟩ (aFv_k rfl) ?_
  refine w_bipush (v := 8) dX12_features_296 (by decide) ?_
  refine w_aload_n 0 ((some (57))) dX12_features_298 rfl rfl ?_
  refine w_iload_n 1 dX12_features_299 rfl rfl ?_
  refine w_iload_n 2 dX12_features_300 rfl rfl ?_
  replace h := e_bind h; obtain ⟨q12, e13, h⟩ := h
  refine w_callV1 (M2 := m_X12_farOf) (av := [.int (x1), .int (x2)]) (ci := 12) (c_X12_farOf _ _ _ _ e13) dX12_features_301 kd_X12_farOf wd_21_17 wd_21_18 wd_21_19 rfl rfl ⟨rfl, Or.inr ⟨rfl, by decide⟩⟩ rfl ⟨Nat.le_of_ble_eq_true rfl, Nat.le_of_ble_eq_true rfl, Nat.le_of_ble_eq_true rfl, Nat.le_of_ble_eq_true rfl⟩ (Nat.le_of_ble_eq_true rfl) ?_
  refine w_iastore dX12_features_304 ⟨rfl, Or.inr ⟨rfl, by decide⟩⟩ (by decide) ?_
  refine w_aload_n 0 ((some (57))) dX12_features_305 rfl rfl ?_
  refine w_get (v := va_rf (some 69)) dX12_features_306 fl_RX12_56 ⟨rfl, Or.inr ⟨rfl, by decide⟩⟩ (aFv_k rfl) ?_
  refine w_bipush (v := 9) dX12_features_309 (by decide) ?_
  refine w_iload 8 dX12_features_311 rfl ?_
  refine w_iastore dX12_features_313 ⟨rfl, Or.inr ⟨rfl, by decide⟩⟩ (by decide) ?_
  obtain rfl := Option.some.inj h
  exact w_vreturn dX12_features_314 rfl (Nat.le_of_ble_eq_true rfl) (Nat.le_of_ble_eq_true rfl)
set_option maxRecDepth 100000 in
set_option maxHeartbeats 4000000 in
theorem l_X12_features_25_b (rec25 : Int32 → Int32 → Int32 → Int32 → Int32 → Int32 → Int32 → Int32 → Int32 → aSt → Option (Unit × aSt)) (hrec25 : ∀ (x1 : Int32) (x2 : Int32) (x3 : Int32) (x4 : Int32) (x5 : Int32) (x6 : Int32) (x7 : Int32) (x8 : Int32) (x9 : Int32) (σ : aSt) (o : Unit × aSt), rec25 x1 x2 x3 x4 x5 x6 x7 x8 x9 σ = some o → AW true m_X12_features 25 [(0, va_rf (some (57))), (1, Value.int (x1)), (2, Value.int (x2)), (3, Value.int (x3)), (4, Value.int (x4)), (5, Value.int (x5)), (6, Value.int (x6)), (7, Value.int (x7)), (8, Value.int (x8)), (9, Value.int (x9))] [] σ 0 0 none o.2) (x1 : Int32) (x2 : Int32) (x3 : Int32) (x4 : Int32) (x5 : Int32) (x6 : Int32) (x7 : Int32) (x8 : Int32) (x9 : Int32) (σ : aSt) (o : Unit × aSt) (h : f_X12_features_25_b rec25 x1 x2 x3 x4 x5 x6 x7 x8 x9 σ = some o) : AW true m_X12_features 25 [(0, va_rf (some (57))), (1, Value.int (x1)), (2, Value.int (x2)), (3, Value.int (x3)), (4, Value.int (x4)), (5, Value.int (x5)), (6, Value.int (x6)), (7, Value.int (x7)), (8, Value.int (x8)), (9, Value.int (x9))] [] σ 0 0 none o.2 := by
  unfold f_X12_features_25_b at h
  refine w_iload 9 dX12_features_25 rfl ?_
  refine w_aload_n 0 ((some (57))) dX12_features_27 rfl rfl ?_
  refine w_get dX12_features_28 fl_RX12_127 ⟨rfl, Or.inr ⟨rfl, by decide⟩⟩ (aFv_i rfl) ?_
  refine w_icmp_ge 202 dX12_features_31 (by decide) (fun c32 => ?_) (fun c32 => ?_)
  · replace h := e_t c32 h
    refine w_aload_n 0 ((some (57))) dX12_features_202 rfl rfl ?_
    refine w_get (v := va_rf (some 69)) dX12_features_203 fl_RX12_56 ⟨rfl, Or.inr ⟨rfl, by decide⟩⟩ (aFv_k rfl) ?_
    refine w_iconst (v := 0) dX12_features_206 (by decide) ?_
    refine w_iload_n 3 dX12_features_207 rfl rfl ?_
    refine w_iastore dX12_features_208 ⟨rfl, Or.inr ⟨rfl, by decide⟩⟩ (by decide) ?_
    refine w_aload_n 0 ((some (57))) dX12_features_209 rfl rfl ?_
    refine w_get (v := va_rf (some 69)) dX12_features_210 fl_RX12_56 ⟨rfl, Or.inr ⟨rfl, by decide⟩⟩ (aFv_k rfl) ?_
    refine w_iconst (v := 1) dX12_features_213 (by decide) ?_
    refine w_aload_n 0 ((some (57))) dX12_features_214 rfl rfl ?_
    refine w_get (v := va_rf (some 66)) dX12_features_215 fl_RX12_34 ⟨rfl, Or.inr ⟨rfl, by decide⟩⟩ (aFv_k rfl) ?_
    refine w_iload_n 1 dX12_features_218 rfl rfl ?_
    replace h := e_grd h; obtain ⟨b34, h⟩ := h
    refine w_iaload dX12_features_219 ⟨rfl, Or.inr ⟨rfl, by decide⟩⟩ b34 ?_
    refine w_iastore dX12_features_220 ⟨rfl, Or.inr ⟨rfl, by decide⟩⟩ (by decide) ?_
    refine w_aload_n 0 ((some (57))) dX12_features_221 rfl rfl ?_
    refine w_get (v := va_rf (some 69)) dX12_features_222 fl_RX12_56 ⟨rfl, Or.inr ⟨rfl, by decide⟩⟩ (aFv_k rfl) ?_
    refine w_iconst (v := 2) dX12_features_225 (by decide) ?_
    refine w_aload_n 0 ((some (57))) dX12_features_226 rfl rfl ?_
    refine w_get (v := va_rf (some 62)) dX12_features_227 fl_RX12_22 ⟨rfl, Or.inr ⟨rfl, by decide⟩⟩ (aFv_k rfl) ?_
    refine w_iload_n 1 dX12_features_230 rfl rfl ?_
    replace h := e_grd h; obtain ⟨b36, h⟩ := h
    refine w_iaload dX12_features_231 ⟨rfl, Or.inr ⟨rfl, by decide⟩⟩ b36 ?_
    refine w_bipush (v := 24) dX12_features_232 (by decide) ?_
    refine w_irem dX12_features_234 (by decide) ?_
    refine w_iastore dX12_features_235 ⟨rfl, Or.inr ⟨rfl, by decide⟩⟩ (by decide) ?_
    refine w_sub [0, 1, 2, 3, 4, 5, 6, 7, 8] rfl ?_
    exact l_X12_features_236 _ _ _ _ _ _ _ _ _ _ h
  · replace h := e_f c32 h
    refine w_aload_n 0 ((some (57))) dX12_features_34 rfl rfl ?_
    refine w_iload 9 dX12_features_35 rfl ?_
    refine w_iload_n 1 dX12_features_37 rfl rfl ?_
    refine w_iload_n 2 dX12_features_38 rfl rfl ?_
    replace h := e_bind h; obtain ⟨q38, e39, h⟩ := h
    refine w_callV1 (M2 := m_X12_isAhead) (av := [.int (x9), .int (x1), .int (x2)]) (ci := 12) (c_X12_isAhead _ _ _ _ _ e39) dX12_features_39 kd_X12_isAhead wd_21_2 wd_21_3 wd_21_4 rfl rfl ⟨rfl, Or.inr ⟨rfl, by decide⟩⟩ rfl ⟨Nat.le_of_ble_eq_true rfl, Nat.le_of_ble_eq_true rfl, Nat.le_of_ble_eq_true rfl, Nat.le_of_ble_eq_true rfl⟩ (Nat.le_of_ble_eq_true rfl) ?_
    refine w_if_eq 196 dX12_features_42 (by decide) (fun c40 => ?_) (fun c40 => ?_)
    · replace h := e_t c40 h
      exact l_X12_features_196 rec25 hrec25 _ _ _ _ _ _ _ _ _ _ _ h
    · replace h := e_f c40 h
      refine w_aload_n 0 ((some (57))) dX12_features_45 rfl rfl ?_
      refine w_get (v := va_rf (some 62)) dX12_features_46 fl_RX12_22 ⟨rfl, Or.inr ⟨rfl, by decide⟩⟩ (aFv_k rfl) ?_
      refine w_iload 9 dX12_features_49 rfl ?_
      replace h := e_grd h; obtain ⟨b41, h⟩ := h
      refine w_iaload dX12_features_51 ⟨rfl, Or.inr ⟨rfl, by decide⟩⟩ b41 ?_
      refine w_aload_n 0 ((some (57))) dX12_features_52 rfl rfl ?_
      refine w_get (v := va_rf (some 62)) dX12_features_53 fl_RX12_22 ⟨rfl, Or.inr ⟨rfl, by decide⟩⟩ (aFv_k rfl) ?_
      refine w_iload_n 1 dX12_features_56 rfl rfl ?_
      replace h := e_grd h; obtain ⟨b42, h⟩ := h
      refine w_iaload dX12_features_57 ⟨rfl, Or.inr ⟨rfl, by decide⟩⟩ b42 ?_
      refine w_aload_n 0 ((some (57))) dX12_features_58 rfl rfl ?_
      refine w_get dX12_features_59 fl_RX12_43 ⟨rfl, Or.inr ⟨rfl, by decide⟩⟩ (aFv_i rfl) ?_
      refine w_isub dX12_features_62 ?_
      refine w_icmp_le 70 dX12_features_63 (by decide) (fun c43 => ?_) (fun c43 => ?_)
      · replace h := e_t c43 h
        refine w_iconst (v := 0) dX12_features_70 (by decide) ?_
        exact l_X12_features_71 rec25 hrec25 _ _ _ _ _ _ _ _ _ _ _ _ h
      · replace h := e_f c43 h
        refine w_iconst (v := 1) dX12_features_66 (by decide) ?_
        refine w_goto 71 dX12_features_67 (by decide) ?_
        exact l_X12_features_71 rec25 hrec25 _ _ _ _ _ _ _ _ _ _ _ _ h
theorem l_X12_features_25  : ∀ (n : Nat) (x1 : Int32) (x2 : Int32) (x3 : Int32) (x4 : Int32) (x5 : Int32) (x6 : Int32) (x7 : Int32) (x8 : Int32) (x9 : Int32) (σ : aSt) (o : Unit × aSt), f_X12_features_25  n x1 x2 x3 x4 x5 x6 x7 x8 x9 σ = some o → AW true m_X12_features 25 [(0, va_rf (some (57))), (1, Value.int (x1)), (2, Value.int (x2)), (3, Value.int (x3)), (4, Value.int (x4)), (5, Value.int (x5)), (6, Value.int (x6)), (7, Value.int (x7)), (8, Value.int (x8)), (9, Value.int (x9))] [] σ 0 0 none o.2
  | 0 => fun x1 x2 x3 x4 x5 x6 x7 x8 x9 σ o h => by cases h
  | n + 1 => fun x1 x2 x3 x4 x5 x6 x7 x8 x9 σ o h => l_X12_features_25_b (f_X12_features_25  n) (l_X12_features_25  n) x1 x2 x3 x4 x5 x6 x7 x8 x9 σ o h
set_option maxRecDepth 100000 in
set_option maxHeartbeats 4000000 in
theorem c_X12_features (p1 : Int32) (p2 : Int32) (p3 : Int32) (σ : aSt) (o : Unit × aSt) (h : f_X12_features p1 p2 p3 σ = some o) : AM true m_X12_features [va_rf (some (57)), .int (p1), .int (p2), .int (p3)] σ none o.2 := by
  refine AM_of2 (lv := [(0, va_rf (some (57))), (1, Value.int (p1)), (2, Value.int (p2)), (3, Value.int (p3))]) (by decide +kernel) rfl (Nat.le_of_ble_eq_true rfl) ?_
  unfold f_X12_features at h
  refine w_iconst (v := 0) dX12_features_0 (by decide) ?_
  refine w_istore dX12_features_1 (by decide) rfl ?_
  refine w_iconst (v := 0) dX12_features_3 (by decide) ?_
  refine w_istore dX12_features_4 (by decide) rfl ?_
  refine w_iconst (v := 1) dX12_features_6 (by decide) ?_
  refine w_aload_n 2 ((some (57))) dX12_features_7 rfl rfl ?_
  refine w_get (v := va_rf (some 64)) dX12_features_8 fl_RX12_28 ⟨rfl, Or.inr ⟨rfl, by decide⟩⟩ (aFv_k rfl) ?_
  refine w_iload_n 3 dX12_features_11 rfl rfl ?_
  replace h := e_grd h; obtain ⟨b1, h⟩ := h
  refine w_iaload dX12_features_12 ⟨rfl, Or.inr ⟨rfl, by decide⟩⟩ b1 ?_
  refine w_ishl dX12_features_13 ?_
  refine w_istore dX12_features_14 (by decide) rfl ?_
  refine w_iconst (v := 0) dX12_features_16 (by decide) ?_
  refine w_istore dX12_features_17 (by decide) rfl ?_
  refine w_iconst (v := 0) dX12_features_19 (by decide) ?_
  refine w_istore dX12_features_20 (by decide) rfl ?_
  refine w_iconst (v := 0) dX12_features_22 (by decide) ?_
  refine w_istore dX12_features_23 (by decide) rfl ?_
  refine w_sub [6, 7, 8, 9, 5, 4, 3, 2, 1, 0] rfl ?_
  exact l_X12_features_25 aN _ _ _ _ _ _ _ _ _ _ _ h
