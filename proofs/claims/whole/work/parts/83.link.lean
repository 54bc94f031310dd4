theorem dX8_holds_0 : decode cX8_holds 0 = .ok (.iload_n 1, 1) := by decide +kernel
theorem dX8_holds_1 : decode cX8_holds 1 = .ok (.iconst 4, 1) := by decide +kernel
theorem dX8_holds_2 : decode cX8_holds 2 = .ok (.imul, 1) := by decide +kernel
theorem dX8_holds_3 : decode cX8_holds 3 = .ok (.istore_n 3, 1) := by decide +kernel
theorem dX8_holds_4 : decode cX8_holds 4 = .ok (.iload_n 3, 1) := by decide +kernel
theorem dX8_holds_5 : decode cX8_holds 5 = .ok (.iload_n 1, 1) := by decide +kernel
theorem dX8_holds_6 : decode cX8_holds 6 = .ok (.iconst 4, 1) := by decide +kernel
theorem dX8_holds_7 : decode cX8_holds 7 = .ok (.imul, 1) := by decide +kernel
theorem dX8_holds_8 : decode cX8_holds 8 = .ok (.aload_n 0, 1) := by decide +kernel
theorem dX8_holds_9 : decode cX8_holds 9 = .ok (.getfield 22, 3) := by decide +kernel
theorem dX8_holds_12 : decode cX8_holds 12 = .ok (.iload_n 1, 1) := by decide +kernel
theorem dX8_holds_13 : decode cX8_holds 13 = .ok (.iaload, 1) := by decide +kernel
theorem dX8_holds_14 : decode cX8_holds 14 = .ok (.iadd, 1) := by decide +kernel
theorem dX8_holds_15 : decode cX8_holds 15 = .ok (.if_icmp .ge 125, 3) := by decide +kernel
theorem dX8_holds_18 : decode cX8_holds 18 = .ok (.aload_n 0, 1) := by decide +kernel
theorem dX8_holds_19 : decode cX8_holds 19 = .ok (.getfield 25, 3) := by decide +kernel
theorem dX8_holds_22 : decode cX8_holds 22 = .ok (.iload_n 3, 1) := by decide +kernel
theorem dX8_holds_23 : decode cX8_holds 23 = .ok (.iaload, 1) := by decide +kernel
theorem dX8_holds_24 : decode cX8_holds 24 = .ok (.iconst 0, 1) := by decide +kernel
theorem dX8_holds_25 : decode cX8_holds 25 = .ok (.aload_n 2, 1) := by decide +kernel
theorem dX8_holds_26 : decode cX8_holds 26 = .ok (.arraylength, 1) := by decide +kernel
theorem dX8_holds_27 : decode cX8_holds 27 = .ok (.iconst 1, 1) := by decide +kernel
theorem dX8_holds_28 : decode cX8_holds 28 = .ok (.isub, 1) := by decide +kernel
theorem dX8_holds_29 : decode cX8_holds 29 = .ok (.invokestatic 41, 3) := by decide +kernel
theorem dX8_holds_32 : decode cX8_holds 32 = .ok (.ifCond .eq 14, 3) := by decide +kernel
theorem dX8_holds_35 : decode cX8_holds 35 = .ok (.aload_n 2, 1) := by decide +kernel
theorem dX8_holds_36 : decode cX8_holds 36 = .ok (.aload_n 0, 1) := by decide +kernel
theorem dX8_holds_37 : decode cX8_holds 37 = .ok (.getfield 25, 3) := by decide +kernel
theorem dX8_holds_40 : decode cX8_holds 40 = .ok (.iload_n 3, 1) := by decide +kernel
theorem dX8_holds_41 : decode cX8_holds 41 = .ok (.iaload, 1) := by decide +kernel
theorem dX8_holds_42 : decode cX8_holds 42 = .ok (.iaload, 1) := by decide +kernel
theorem dX8_holds_43 : decode cX8_holds 43 = .ok (.goto 4, 3) := by decide +kernel
theorem dX8_holds_46 : decode cX8_holds 46 = .ok (.iconst 0, 1) := by decide +kernel
theorem dX8_holds_47 : decode cX8_holds 47 = .ok (.istore 4, 2) := by decide +kernel
theorem dX8_holds_49 : decode cX8_holds 49 = .ok (.aload_n 0, 1) := by decide +kernel
theorem dX8_holds_50 : decode cX8_holds 50 = .ok (.getfield 28, 3) := by decide +kernel
theorem dX8_holds_53 : decode cX8_holds 53 = .ok (.iload_n 3, 1) := by decide +kernel
theorem dX8_holds_54 : decode cX8_holds 54 = .ok (.iaload, 1) := by decide +kernel
theorem dX8_holds_55 : decode cX8_holds 55 = .ok (.istore 5, 2) := by decide +kernel
theorem dX8_holds_57 : decode cX8_holds 57 = .ok (.iload 5, 2) := by decide +kernel
theorem dX8_holds_59 : decode cX8_holds 59 = .ok (.bipush 60, 2) := by decide +kernel
theorem dX8_holds_61 : decode cX8_holds 61 = .ok (.if_icmp .ne 22, 3) := by decide +kernel
theorem dX8_holds_64 : decode cX8_holds 64 = .ok (.iload 4, 2) := by decide +kernel
theorem dX8_holds_66 : decode cX8_holds 66 = .ok (.aload_n 0, 1) := by decide +kernel
theorem dX8_holds_67 : decode cX8_holds 67 = .ok (.getfield 31, 3) := by decide +kernel
theorem dX8_holds_70 : decode cX8_holds 70 = .ok (.iload_n 3, 1) := by decide +kernel
theorem dX8_holds_71 : decode cX8_holds 71 = .ok (.iaload, 1) := by decide +kernel
theorem dX8_holds_72 : decode cX8_holds 72 = .ok (.if_icmp .ge 7, 3) := by decide +kernel
theorem dX8_holds_75 : decode cX8_holds 75 = .ok (.iconst 1, 1) := by decide +kernel
theorem dX8_holds_76 : decode cX8_holds 76 = .ok (.goto 49, 3) := by decide +kernel
theorem dX8_holds_79 : decode cX8_holds 79 = .ok (.iconst 0, 1) := by decide +kernel
theorem dX8_holds_80 : decode cX8_holds 80 = .ok (.goto 45, 3) := by decide +kernel
theorem dX8_holds_83 : decode cX8_holds 83 = .ok (.iload 5, 2) := by decide +kernel
theorem dX8_holds_85 : decode cX8_holds 85 = .ok (.bipush 62, 2) := by decide +kernel
theorem dX8_holds_87 : decode cX8_holds 87 = .ok (.if_icmp .ne 22, 3) := by decide +kernel
theorem dX8_holds_90 : decode cX8_holds 90 = .ok (.iload 4, 2) := by decide +kernel
theorem dX8_holds_92 : decode cX8_holds 92 = .ok (.aload_n 0, 1) := by decide +kernel
theorem dX8_holds_93 : decode cX8_holds 93 = .ok (.getfield 31, 3) := by decide +kernel
theorem dX8_holds_96 : decode cX8_holds 96 = .ok (.iload_n 3, 1) := by decide +kernel
theorem dX8_holds_97 : decode cX8_holds 97 = .ok (.iaload, 1) := by decide +kernel
theorem dX8_holds_98 : decode cX8_holds 98 = .ok (.if_icmp .le 7, 3) := by decide +kernel
theorem dX8_holds_101 : decode cX8_holds 101 = .ok (.iconst 1, 1) := by decide +kernel
theorem dX8_holds_102 : decode cX8_holds 102 = .ok (.goto 23, 3) := by decide +kernel
theorem dX8_holds_105 : decode cX8_holds 105 = .ok (.iconst 0, 1) := by decide +kernel
theorem dX8_holds_106 : decode cX8_holds 106 = .ok (.goto 19, 3) := by decide +kernel
theorem dX8_holds_109 : decode cX8_holds 109 = .ok (.iload 4, 2) := by decide +kernel
theorem dX8_holds_111 : decode cX8_holds 111 = .ok (.aload_n 0, 1) := by decide +kernel
theorem dX8_holds_112 : decode cX8_holds 112 = .ok (.getfield 31, 3) := by decide +kernel
theorem dX8_holds_115 : decode cX8_holds 115 = .ok (.iload_n 3, 1) := by decide +kernel
theorem dX8_holds_116 : decode cX8_holds 116 = .ok (.iaload, 1) := by decide +kernel
theorem dX8_holds_117 : decode cX8_holds 117 = .ok (.if_icmp .ne 7, 3) := by decide +kernel
theorem dX8_holds_120 : decode cX8_holds 120 = .ok (.iconst 1, 1) := by decide +kernel
theorem dX8_holds_121 : decode cX8_holds 121 = .ok (.goto 4, 3) := by decide +kernel
theorem dX8_holds_124 : decode cX8_holds 124 = .ok (.iconst 0, 1) := by decide +kernel
theorem dX8_holds_125 : decode cX8_holds 125 = .ok (.istore 6, 2) := by decide +kernel
theorem dX8_holds_127 : decode cX8_holds 127 = .ok (.iload 6, 2) := by decide +kernel
theorem dX8_holds_129 : decode cX8_holds 129 = .ok (.ifCond .ne 5, 3) := by decide +kernel
theorem dX8_holds_132 : decode cX8_holds 132 = .ok (.iconst 0, 1) := by decide +kernel
theorem dX8_holds_133 : decode cX8_holds 133 = .ok (.ireturn, 1) := by decide +kernel
theorem dX8_holds_134 : decode cX8_holds 134 = .ok (.iinc 3 1, 3) := by decide +kernel
theorem dX8_holds_137 : decode cX8_holds 137 = .ok (.goto (-133), 3) := by decide +kernel
theorem dX8_holds_140 : decode cX8_holds 140 = .ok (.iconst 1, 1) := by decide +kernel
theorem dX8_holds_141 : decode cX8_holds 141 = .ok (.ireturn, 1) := by decide +kernel
theorem kd_X8_holds : aKd m_X8_holds 2 := ⟨wd_34_12, wd_2_21, ⟨by decide +kernel, by decide +kernel, by decide +kernel⟩⟩
set_option maxRecDepth 100000 in
set_option maxHeartbeats 4000000 in
theorem l_X8_holds_125 (rec4 : Nat → Int32 → Int32 → aSt → Option (Int32 × aSt)) (hrec4 : ∀ (x0 : Nat) (x1 : Int32) (x3 : Int32) (σ : aSt) (o : Int32 × aSt), rec4 x0 x1 x3 σ = some o → AW true m_X8_holds 4 [(0, va_rf (some (x0))), (1, Value.int (x1)), (2, va_rf (some (21))), (3, Value.int (x3))] [] σ 0 0 (some (.int o.1)) o.2) (x0 : Nat) (x1 : Int32) (x3 : Int32) (t0 : Int32) (σ : aSt) (o : Int32 × aSt) (h : f_X8_holds_125 rec4 x0 x1 x3 t0 σ = some o) : AW true m_X8_holds 125 [(0, va_rf (some (x0))), (1, Value.int (x1)), (2, va_rf (some (21))), (3, Value.int (x3))] [.int (t0)] σ 0 0 (some (.int o.1)) o.2 := by
  unfold f_X8_holds_125 at h
  refine w_istore dX8_holds_125 (by decide) rfl ?_
  refine w_iload 0 dX8_holds_127 rfl ?_
  refine w_if_ne 134 dX8_holds_129 (by decide) (fun c1 => ?_) (fun c1 => ?_)
  · replace h := e_f c1 h
    refine w_iinc (q := 4) (v := x3 + 1) dX8_holds_134 rfl rfl (by decide) rfl ?_
    refine w_goto 4 dX8_holds_137 (by decide) ?_
    refine w_sub [2, 3, 4, 0] rfl ?_
    exact hrec4 _ _ _ _ _ h
  · replace h := e_t c1 h
    refine w_iconst (v := 0) dX8_holds_132 (by decide) ?_
    obtain rfl := Option.some.inj h
    exact w_zreturn dX8_holds_133 rfl rfl (Nat.le_of_ble_eq_true rfl) (Nat.le_of_ble_eq_true rfl)
set_option maxRecDepth 100000 in
set_option maxHeartbeats 4000000 in
theorem l_X8_holds_47 (rec4 : Nat → Int32 → Int32 → aSt → Option (Int32 × aSt)) (hrec4 : ∀ (x0 : Nat) (x1 : Int32) (x3 : Int32) (σ : aSt) (o : Int32 × aSt), rec4 x0 x1 x3 σ = some o → AW true m_X8_holds 4 [(0, va_rf (some (x0))), (1, Value.int (x1)), (2, va_rf (some (21))), (3, Value.int (x3))] [] σ 0 0 (some (.int o.1)) o.2) (x0 : Nat) (x1 : Int32) (x3 : Int32) (t0 : Int32) (σ : aSt) (o : Int32 × aSt) (h : f_X8_holds_47 rec4 x0 x1 x3 t0 σ = some o) : AW true m_X8_holds 47 [(0, va_rf (some (x0))), (1, Value.int (x1)), (2, va_rf (some (21))), (3, Value.int (x3))] [.int (t0)] σ 0 0 (some (.int o.1)) o.2 := by
  unfold f_X8_holds_47 at h
  refine w_istore dX8_holds_47 (by decide) rfl ?_
  refine w_aload_n 1 ((some (x0))) dX8_holds_49 rfl rfl ?_
  replace h := e_grd h; obtain ⟨g2, h⟩ := h
  refine w_get (v := va_rf (some ((x0 + 5)))) dX8_holds_50 fl_RX8_28 ⟨g2.1, Or.inl g2.2⟩ (aFv_k rfl) ?_
  refine w_iload_n 4 dX8_holds_53 rfl rfl ?_
  replace h := e_grd h; obtain ⟨g3, h⟩ := h
  replace h := e_grd h; obtain ⟨b4, h⟩ := h
  refine w_iaload dX8_holds_54 ⟨g3.1, Or.inl g3.2⟩ b4 ?_
  refine w_istore dX8_holds_55 (by decide) rfl ?_
  refine w_iload 0 dX8_holds_57 rfl ?_
  refine w_bipush (v := 60) dX8_holds_59 (by decide) ?_
  refine w_icmp_ne 83 dX8_holds_61 (by decide) (fun c5 => ?_) (fun c5 => ?_)
  · replace h := e_f c5 h
    refine w_iload 0 dX8_holds_83 rfl ?_
    refine w_bipush (v := 62) dX8_holds_85 (by decide) ?_
    refine w_icmp_ne 109 dX8_holds_87 (by decide) (fun c6 => ?_) (fun c6 => ?_)
    · replace h := e_f c6 h
      refine w_iload 1 dX8_holds_109 rfl ?_
      refine w_aload_n 2 ((some (x0))) dX8_holds_111 rfl rfl ?_
      refine w_get (v := va_rf (some ((x0 + 6)))) dX8_holds_112 fl_RX8_31 ⟨g2.1, Or.inl g2.2⟩ (aFv_k rfl) ?_
      refine w_iload_n 5 dX8_holds_115 rfl rfl ?_
      replace h := e_grd h; obtain ⟨g7, h⟩ := h
      replace h := e_grd h; obtain ⟨b8, h⟩ := h
      refine w_iaload dX8_holds_116 ⟨g7.1, Or.inl g7.2⟩ b8 ?_
      refine w_icmp_ne 124 dX8_holds_117 (by decide) (fun c9 => ?_) (fun c9 => ?_)
      · replace h := e_f c9 h
        refine w_iconst (v := 0) dX8_holds_124 (by decide) ?_
        refine w_sub [2, 3, 4, 5] rfl ?_
        exact l_X8_holds_125 rec4 hrec4 _ _ _ _ _ _ h
      · replace h := e_t c9 h
        refine w_iconst (v := 1) dX8_holds_120 (by decide) ?_
        refine w_goto 125 dX8_holds_121 (by decide) ?_
        refine w_sub [2, 3, 4, 5] rfl ?_
        exact l_X8_holds_125 rec4 hrec4 _ _ _ _ _ _ h
    · replace h := e_t c6 h
      refine w_iload 1 dX8_holds_90 rfl ?_
      refine w_aload_n 2 ((some (x0))) dX8_holds_92 rfl rfl ?_
      refine w_get (v := va_rf (some ((x0 + 6)))) dX8_holds_93 fl_RX8_31 ⟨g2.1, Or.inl g2.2⟩ (aFv_k rfl) ?_
      refine w_iload_n 5 dX8_holds_96 rfl rfl ?_
      replace h := e_grd h; obtain ⟨g10, h⟩ := h
      replace h := e_grd h; obtain ⟨b11, h⟩ := h
      refine w_iaload dX8_holds_97 ⟨g10.1, Or.inl g10.2⟩ b11 ?_
      refine w_icmp_le 105 dX8_holds_98 (by decide) (fun c12 => ?_) (fun c12 => ?_)
      · replace h := e_t c12 h
        refine w_iconst (v := 0) dX8_holds_105 (by decide) ?_
        refine w_goto 125 dX8_holds_106 (by decide) ?_
        refine w_sub [2, 3, 4, 5] rfl ?_
        exact l_X8_holds_125 rec4 hrec4 _ _ _ _ _ _ h
      · replace h := e_f c12 h
        refine w_iconst (v := 1) dX8_holds_101 (by decide) ?_
        refine w_goto 125 dX8_holds_102 (by decide) ?_
        refine w_sub [2, 3, 4, 5] rfl ?_
        exact l_X8_holds_125 rec4 hrec4 _ _ _ _ _ _ h
  · replace h := e_t c5 h
    refine w_iload 1 dX8_holds_64 rfl ?_
    refine w_aload_n 2 ((some (x0))) dX8_holds_66 rfl rfl ?_
    refine w_get (v := va_rf (some ((x0 + 6)))) dX8_holds_67 fl_RX8_31 ⟨g2.1, Or.inl g2.2⟩ (aFv_k rfl) ?_
    refine w_iload_n 5 dX8_holds_70 rfl rfl ?_
    replace h := e_grd h; obtain ⟨g13, h⟩ := h
    replace h := e_grd h; obtain ⟨b14, h⟩ := h
    refine w_iaload dX8_holds_71 ⟨g13.1, Or.inl g13.2⟩ b14 ?_
    refine w_icmp_ge 79 dX8_holds_72 (by decide) (fun c15 => ?_) (fun c15 => ?_)
    · replace h := e_t c15 h
      refine w_iconst (v := 0) dX8_holds_79 (by decide) ?_
      refine w_goto 125 dX8_holds_80 (by decide) ?_
      refine w_sub [2, 3, 4, 5] rfl ?_
      exact l_X8_holds_125 rec4 hrec4 _ _ _ _ _ _ h
    · replace h := e_f c15 h
      refine w_iconst (v := 1) dX8_holds_75 (by decide) ?_
      refine w_goto 125 dX8_holds_76 (by decide) ?_
      refine w_sub [2, 3, 4, 5] rfl ?_
      exact l_X8_holds_125 rec4 hrec4 _ _ _ _ _ _ h
set_option maxRecDepth 100000 in
set_option maxHeartbeats 4000000 in
theorem l_X8_holds_4_b (rec4 : Nat → Int32 → Int32 → aSt → Option (Int32 × aSt)) (hrec4 : ∀ (x0 : Nat) (x1 : Int32) (x3 : Int32) (σ : aSt) (o : Int32 × aSt), rec4 x0 x1 x3 σ = some o → AW true m_X8_holds 4 [(0, va_rf (some (x0))), (1, Value.int (x1)), (2, va_rf (some (21))), (3, Value.int (x3))] [] σ 0 0 (some (.int o.1)) o.2) (x0 : Nat) (x1 : Int32) (x3 : Int32) (σ : aSt) (o : Int32 × aSt) (h : f_X8_holds_4_b rec4 x0 x1 x3 σ = some o) : AW true m_X8_holds 4 [(0, va_rf (some (x0))), (1, Value.int (x1)), (2, va_rf (some (21))), (3, Value.int (x3))] [] σ 0 0 (some (.int o.1)) o.2 := by
  unfold f_X8_holds_4_b at h
  refine w_iload_n 3 dX8_holds_4 rfl rfl ?_
  refine w_iload_n 1 dX8_holds_5 rfl rfl ?_
  refine w_iconst (v := 4) dX8_holds_6 (by decide) ?_
  refine w_imul dX8_holds_7 ?_
  refine w_aload_n 0 ((some (x0))) dX8_holds_8 rfl rfl ?_
  replace h := e_grd h; obtain ⟨g16, h⟩ := h
  refine w_get (v := va_rf (some ((x0 + 3)))) dX8_holds_9 fl_RX8_22 ⟨g16.1, Or.inl g16.2⟩ (aFv_k rfl) ?_
  refine w_iload_n 1 dX8_holds_12 rfl rfl ?_
  replace h := e_grd h; obtain ⟨g17, h⟩ := h
  replace h := e_grd h; obtain ⟨b18, h⟩ := h
  refine w_iaload dX8_holds_13 ⟨g17.1, Or.inl g17.2⟩ b18 ?_
  refine w_iadd dX8_holds_14 ?_
  refine w_icmp_ge 140 dX8_holds_15 (by decide) (fun c19 => ?_) (fun c19 => ?_)
  · replace h := e_t c19 h
    refine w_iconst (v := 1) dX8_holds_140 (by decide) ?_
    obtain rfl := Option.some.inj h
    exact w_zreturn dX8_holds_141 rfl rfl (Nat.le_of_ble_eq_true rfl) (Nat.le_of_ble_eq_true rfl)
  · replace h := e_f c19 h
    refine w_aload_n 0 ((some (x0))) dX8_holds_18 rfl rfl ?_
    refine w_get (v := va_rf (some ((x0 + 4)))) dX8_holds_19 fl_RX8_25 ⟨g16.1, Or.inl g16.2⟩ (aFv_k rfl) ?_
    refine w_iload_n 3 dX8_holds_22 rfl rfl ?_
    replace h := e_grd h; obtain ⟨g20, h⟩ := h
    replace h := e_grd h; obtain ⟨b21, h⟩ := h
    refine w_iaload dX8_holds_23 ⟨g20.1, Or.inl g20.2⟩ b21 ?_
    refine w_iconst (v := 0) dX8_holds_24 (by decide) ?_
    refine w_aload_n 2 ((some (21))) dX8_holds_25 rfl rfl ?_
    refine w_alenI dX8_holds_26 ⟨rfl, Or.inr ⟨rfl, by decide⟩⟩ ?_
    refine w_iconst (v := 1) dX8_holds_27 (by decide) ?_
    refine w_isub dX8_holds_28 ?_
    replace h := e_bind h; obtain ⟨q22, e23, h⟩ := h
    refine w_callSN1 (M2 := m_X11_within) (av := [.int (gI σ (x0 + 4) x3.toNatClampNeg), .int (0), .int ((Int32.ofNat (aLn 21)) - 1)]) (host := RX11) (c_X11_within _ _ _ _ _ e23) dX8_holds_29 kd_X11_within (by decide +kernel) wd_9_23 rfl rfl ⟨Nat.le_of_ble_eq_true rfl, Nat.le_of_ble_eq_true rfl, Nat.le_of_ble_eq_true rfl, Nat.le_of_ble_eq_true rfl⟩ (Nat.le_of_ble_eq_true rfl) ?_
    refine w_if_eq 46 dX8_holds_32 (by decide) (fun c24 => ?_) (fun c24 => ?_)
    · replace h := e_t c24 h
      refine w_iconst (v := 0) dX8_holds_46 (by decide) ?_
      exact l_X8_holds_47 rec4 hrec4 _ _ _ _ _ _ h
    · replace h := e_f c24 h
      refine w_aload_n 2 ((some (21))) dX8_holds_35 rfl rfl ?_
      refine w_aload_n 0 ((some (x0))) dX8_holds_36 rfl rfl ?_
      replace h := e_grd h; obtain ⟨g25, h⟩ := h
      refine w_get (v := va_rf (some ((x0 + 4)))) dX8_holds_37 fl_RX8_25 ⟨g25.1, Or.inl g25.2⟩ (aFv_k rfl) ?_
      refine w_iload_n 3 dX8_holds_40 rfl rfl ?_
      replace h := e_grd h; obtain ⟨g26, h⟩ := h
      replace h := e_grd h; obtain ⟨b27, h⟩ := h
      refine w_iaload dX8_holds_41 ⟨g26.1, Or.inl g26.2⟩ b27 ?_
      replace h := e_grd h; obtain ⟨b28, h⟩ := h
      refine w_iaload dX8_holds_42 ⟨rfl, Or.inr ⟨rfl, by decide⟩⟩ b28 ?_
      refine w_goto 47 dX8_holds_43 (by decide) ?_
      exact l_X8_holds_47 rec4 hrec4 _ _ _ _ _ _ h
theorem l_X8_holds_4  : ∀ (n : Nat) (x0 : Nat) (x1 : Int32) (x3 : Int32) (σ : aSt) (o : Int32 × aSt), f_X8_holds_4  n x0 x1 x3 σ = some o → AW true m_X8_holds 4 [(0, va_rf (some (x0))), (1, Value.int (x1)), (2, va_rf (some (21))), (3, Value.int (x3))] [] σ 0 0 (some (.int o.1)) o.2
  | 0 => fun x0 x1 x3 σ o h => by cases h
  | n + 1 => fun x0 x1 x3 σ o h => l_X8_holds_4_b (f_X8_holds_4  n) (l_X8_holds_4  n) x0 x1 x3 σ o h
set_option maxRecDepth 100000 in
set_option maxHeartbeats 4000000 in
theorem c_X8_holds (p0 : Nat) (p1 : Int32) (σ : aSt) (o : Int32 × aSt) (h : f_X8_holds p0 p1 σ = some o) : AM true m_X8_holds [va_rf (some (p0)), .int (p1), va_rf (some (21))] σ (some (.int o.1)) o.2 := by
  refine AM_of2 (lv := [(0, va_rf (some (p0))), (1, Value.int (p1)), (2, va_rf (some (21)))]) (by decide +kernel) rfl (Nat.le_of_ble_eq_true rfl) ?_
  unfold f_X8_holds at h
  refine w_iload_n 1 dX8_holds_0 rfl rfl ?_
  refine w_iconst (v := 4) dX8_holds_1 (by decide) ?_
  refine w_imul dX8_holds_2 ?_
  refine w_istore_n dX8_holds_3 rfl (by decide) rfl ?_
  refine w_sub [1, 2, 3, 0] rfl ?_
  exact l_X8_holds_4 aN _ _ _ _ _ h
theorem dX8_thatHold_0 : decode cX8_thatHold 0 = .ok (.iconst 0, 1) := by decide +kernel
theorem dX8_thatHold_1 : decode cX8_thatHold 1 = .ok (.istore_n 2, 1) := by decide +kernel
theorem dX8_thatHold_2 : decode cX8_thatHold 2 = .ok (.iconst 0, 1) := by decide +kernel
theorem dX8_thatHold_3 : decode cX8_thatHold 3 = .ok (.istore_n 3, 1) := by decide +kernel
theorem dX8_thatHold_4 : decode cX8_thatHold 4 = .ok (.iload_n 3, 1) := by decide +kernel
theorem dX8_thatHold_5 : decode cX8_thatHold 5 = .ok (.aload_n 0, 1) := by decide +kernel
theorem dX8_thatHold_6 : decode cX8_thatHold 6 = .ok (.getfield 15, 3) := by decide +kernel
theorem dX8_thatHold_9 : decode cX8_thatHold 9 = .ok (.if_icmp .ge 24, 3) := by decide +kernel
theorem dX8_thatHold_12 : decode cX8_thatHold 12 = .ok (.aload_n 0, 1) := by decide +kernel
theorem dX8_thatHold_13 : decode cX8_thatHold 13 = .ok (.iload_n 3, 1) := by decide +kernel
theorem dX8_thatHold_14 : decode cX8_thatHold 14 = .ok (.aload_n 1, 1) := by decide +kernel
theorem dX8_thatHold_15 : decode cX8_thatHold 15 = .ok (.invokevirtual 37, 3) := by decide +kernel
theorem dX8_thatHold_18 : decode cX8_thatHold 18 = .ok (.ifCond .eq 9, 3) := by decide +kernel
theorem dX8_thatHold_21 : decode cX8_thatHold 21 = .ok (.iload_n 2, 1) := by decide +kernel
theorem dX8_thatHold_22 : decode cX8_thatHold 22 = .ok (.iconst 1, 1) := by decide +kernel
theorem dX8_thatHold_23 : decode cX8_thatHold 23 = .ok (.iload_n 3, 1) := by decide +kernel
theorem dX8_thatHold_24 : decode cX8_thatHold 24 = .ok (.ishl, 1) := by decide +kernel
theorem dX8_thatHold_25 : decode cX8_thatHold 25 = .ok (.ior, 1) := by decide +kernel
theorem dX8_thatHold_26 : decode cX8_thatHold 26 = .ok (.istore_n 2, 1) := by decide +kernel
theorem dX8_thatHold_27 : decode cX8_thatHold 27 = .ok (.iinc 3 1, 3) := by decide +kernel
theorem dX8_thatHold_30 : decode cX8_thatHold 30 = .ok (.goto (-26), 3) := by decide +kernel
theorem dX8_thatHold_33 : decode cX8_thatHold 33 = .ok (.iload_n 2, 1) := by decide +kernel
theorem dX8_thatHold_34 : decode cX8_thatHold 34 = .ok (.ireturn, 1) := by decide +kernel
theorem kd_X8_thatHold : aKd m_X8_thatHold 1 := ⟨wd_34_8, wd_2_21, ⟨by decide +kernel, by decide +kernel, by decide +kernel⟩⟩
set_option maxRecDepth 100000 in
set_option maxHeartbeats 4000000 in
theorem l_X8_thatHold_27 (rec4 : Nat → Int32 → Int32 → aSt → Option (Int32 × aSt)) (hrec4 : ∀ (x0 : Nat) (x2 : Int32) (x3 : Int32) (σ : aSt) (o : Int32 × aSt), rec4 x0 x2 x3 σ = some o → AW true m_X8_thatHold 4 [(0, va_rf (some (x0))), (1, va_rf (some (21))), (2, Value.int (x2)), (3, Value.int (x3))] [] σ 0 0 (some (.int o.1)) o.2) (x0 : Nat) (x2 : Int32) (x3 : Int32) (σ : aSt) (o : Int32 × aSt) (h : f_X8_thatHold_27 rec4 x0 x2 x3 σ = some o) : AW true m_X8_thatHold 27 [(0, va_rf (some (x0))), (1, va_rf (some (21))), (2, Value.int (x2)), (3, Value.int (x3))] [] σ 0 0 (some (.int o.1)) o.2 := by
  unfold f_X8_thatHold_27 at h
  refine w_iinc (q := 3) (v := x3 + 1) dX8_thatHold_27 rfl rfl (by decide) rfl ?_
  refine w_goto 4 dX8_thatHold_30 (by decide) ?_
  refine w_sub [1, 2, 3, 0] rfl ?_
  exact hrec4 _ _ _ _ _ h
set_option maxRecDepth 100000 in
set_option maxHeartbeats 4000000 in
theorem l_X8_thatHold_4_b (rec4 : Nat → Int32 → Int32 → aSt → Option (Int32 × aSt)) (hrec4 : ∀ (x0 : Nat) (x2 : Int32) (x3 : Int32) (σ : aSt) (o : Int32 × aSt), rec4 x0 x2 x3 σ = some o → AW true m_X8_thatHold 4 [(0, va_rf (some (x0))), (1, va_rf (some (21))), (2, Value.int (x2)), (3, Value.int (x3))] [] σ 0 0 (some (.int o.1)) o.2) (x0 : Nat) (x2 : Int32) (x3 : Int32) (σ : aSt) (o : Int32 × aSt) (h : f_X8_thatHold_4_b rec4 x0 x2 x3 σ = some o) : AW true m_X8_thatHold 4 [(0, va_rf (some (x0))), (1, va_rf (some (21))), (2, Value.int (x2)), (3, Value.int (x3))] [] σ 0 0 (some (.int o.1)) o.2 := by
  unfold f_X8_thatHold_4_b at h
  refine w_iload_n 3 dX8_thatHold_4 rfl rfl ?_
  refine w_aload_n 0 ((some (x0))) dX8_thatHold_5 rfl rfl ?_
  replace h := e_grd h; obtain ⟨g1, h⟩ := h
  refine w_get dX8_thatHold_6 fl_RX8_15 ⟨g1.1, Or.inl g1.2⟩ (aFv_i rfl) ?_
  refine w_icmp_ge 33 dX8_thatHold_9 (by decide) (fun c2 => ?_) (fun c2 => ?_)
  · replace h := e_t c2 h
    refine w_iload_n 2 dX8_thatHold_33 rfl rfl ?_
    obtain rfl := Option.some.inj h
    exact w_ireturn dX8_thatHold_34 rfl (Nat.le_of_ble_eq_true rfl) (Nat.le_of_ble_eq_true rfl)
  · replace h := e_f c2 h
    refine w_aload_n 0 ((some (x0))) dX8_thatHold_12 rfl rfl ?_
    refine w_iload_n 3 dX8_thatHold_13 rfl rfl ?_
    refine w_aload_n 1 ((some (21))) dX8_thatHold_14 rfl rfl ?_
    replace h := e_grd h; obtain ⟨g5, h⟩ := h
    replace h := e_bind h; obtain ⟨q3, e4, h⟩ := h
    refine w_callV1 (M2 := m_X8_holds) (av := [.int (x3), va_rf (some (21))]) (ci := 8) (c_X8_holds _ _ _ _ e4) dX8_thatHold_15 kd_X8_holds wd_34_9 wd_34_10 wd_34_11 rfl rfl ⟨g5.1, Or.inl g5.2⟩ rfl ⟨Nat.le_of_ble_eq_true rfl, Nat.le_of_ble_eq_true rfl, Nat.le_of_ble_eq_true rfl, Nat.le_of_ble_eq_true rfl⟩ (Nat.le_of_ble_eq_true rfl) ?_
    refine w_if_eq 27 dX8_thatHold_18 (by decide) (fun c6 => ?_) (fun c6 => ?_)
    · replace h := e_t c6 h
      exact l_X8_thatHold_27 rec4 hrec4 _ _ _ _ _ h
    · replace h := e_f c6 h
      refine w_iload_n 2 dX8_thatHold_21 rfl rfl ?_
      refine w_iconst (v := 1) dX8_thatHold_22 (by decide) ?_
      refine w_iload_n 3 dX8_thatHold_23 rfl rfl ?_
      refine w_ishl dX8_thatHold_24 ?_
      refine w_ior dX8_thatHold_25 ?_
      refine w_istore_n dX8_thatHold_26 rfl (by decide) rfl ?_
      refine w_sub [1, 2, 0, 3] rfl ?_
      exact l_X8_thatHold_27 rec4 hrec4 _ _ _ _ _ h
theorem l_X8_thatHold_4  : ∀ (n : Nat) (x0 : Nat) (x2 : Int32) (x3 : Int32) (σ : aSt) (o : Int32 × aSt), f_X8_thatHold_4  n x0 x2 x3 σ = some o → AW true m_X8_thatHold 4 [(0, va_rf (some (x0))), (1, va_rf (some (21))), (2, Value.int (x2)), (3, Value.int (x3))] [] σ 0 0 (some (.int o.1)) o.2
  | 0 => fun x0 x2 x3 σ o h => by cases h
  | n + 1 => fun x0 x2 x3 σ o h => l_X8_thatHold_4_b (f_X8_thatHold_4  n) (l_X8_thatHold_4  n) x0 x2 x3 σ o h
set_option maxRecDepth 100000 in
set_option maxHeartbeats 4000000 in
theorem c_X8_thatHold (p0 : Nat) (σ : aSt) (o : Int32 × aSt) (h : f_X8_thatHold p0 σ = some o) : AM true m_X8_thatHold [va_rf (some (p0)), va_rf (some (21))] σ (some (.int o.1)) o.2 := by
  refine AM_of2 (lv := [(0, va_rf (some (p0))), (1, va_rf (some (21)))]) (by decide +kernel) rfl (Nat.le_of_ble_eq_true rfl) ?_
  unfold f_X8_thatHold at h
  refine w_iconst (v := 0) dX8_thatHold_0 (by decide) ?_
  refine w_istore_n dX8_thatHold_1 rfl (by decide) rfl ?_
  refine w_iconst (v := 0) dX8_thatHold_2 (by decide) ?_
  refine w_istore_n dX8_thatHold_3 rfl (by decide) rfl ?_
  refine w_sub [2, 3, 1, 0] rfl ?_
  exact l_X8_thatHold_4 aN _ _ _ _ _ h
theorem dX8_weigh_0 : decode cX8_weigh 0 = .ok (.iconst 0, 1) := by decide +kernel
theorem dX8_weigh_1 : decode cX8_weigh 1 = .ok (.istore_n 2, 1) := by decide +kernel
theorem dX8_weigh_2 : decode cX8_weigh 2 = .ok (.iconst 0, 1) := by decide +kernel
theorem dX8_weigh_3 : decode cX8_weigh 3 = .ok (.istore_n 3, 1) := by decide +kernel
theorem dX8_weigh_4 : decode cX8_weigh 4 = .ok (.iload_n 3, 1) := by decide +kernel
theorem dX8_weigh_5 : decode cX8_weigh 5 = .ok (.aload_n 0, 1) := by decide +kernel
theorem dX8_weigh_6 : decode cX8_weigh 6 = .ok (.getfield 15, 3) := by decide +kernel
theorem dX8_weigh_9 : decode cX8_weigh 9 = .ok (.if_icmp .ge 27, 3) := by decide +kernel
theorem dX8_weigh_12 : decode cX8_weigh 12 = .ok (.iload_n 1, 1) := by decide +kernel
theorem dX8_weigh_13 : decode cX8_weigh 13 = .ok (.iload_n 3, 1) := by decide +kernel
theorem dX8_weigh_14 : decode cX8_weigh 14 = .ok (.ishr, 1) := by decide +kernel
theorem dX8_weigh_15 : decode cX8_weigh 15 = .ok (.iconst 1, 1) := by decide +kernel
theorem dX8_weigh_16 : decode cX8_weigh 16 = .ok (.iand, 1) := by decide +kernel
theorem dX8_weigh_17 : decode cX8_weigh 17 = .ok (.iconst 1, 1) := by decide +kernel
theorem dX8_weigh_18 : decode cX8_weigh 18 = .ok (.if_icmp .ne 12, 3) := by decide +kernel
theorem dX8_weigh_21 : decode cX8_weigh 21 = .ok (.iload_n 2, 1) := by decide +kernel
theorem dX8_weigh_22 : decode cX8_weigh 22 = .ok (.aload_n 0, 1) := by decide +kernel
theorem dX8_weigh_23 : decode cX8_weigh 23 = .ok (.getfield 19, 3) := by decide +kernel
theorem dX8_weigh_26 : decode cX8_weigh 26 = .ok (.iload_n 3, 1) := by decide +kernel
theorem dX8_weigh_27 : decode cX8_weigh 27 = .ok (.iaload, 1) := by decide +kernel
theorem dX8_weigh_28 : decode cX8_weigh 28 = .ok (.iadd, 1) := by decide +kernel
theorem dX8_weigh_29 : decode cX8_weigh 29 = .ok (.istore_n 2, 1) := by decide +kernel
theorem dX8_weigh_30 : decode cX8_weigh 30 = .ok (.iinc 3 1, 3) := by decide +kernel
theorem dX8_weigh_33 : decode cX8_weigh 33 = .ok (.goto (-29), 3) := by decide +kernel
theorem dX8_weigh_36 : decode cX8_weigh 36 = .ok (.iload_n 2, 1) := by decide +kernel
theorem dX8_weigh_37 : decode cX8_weigh 37 = .ok (.ireturn, 1) := by decide +kernel
theorem kd_X8_weigh : aKd m_X8_weigh 1 := ⟨wd_34_16, wd_2_21, ⟨by decide +kernel, by decide +kernel, by decide +kernel⟩⟩
set_option maxRecDepth 100000 in
set_option maxHeartbeats 4000000 in
theorem l_X8_weigh_30 (rec4 : Nat → Int32 → Int32 → Int32 → aSt → Option (Int32 × aSt)) (hrec4 : ∀ (x0 : Nat) (x1 : Int32) (x2 : Int32) (x3 : Int32) (σ : aSt) (o : Int32 × aSt), rec4 x0 x1 x2 x3 σ = some o → AW true m_X8_weigh 4 [(0, va_rf (some (x0))), (1, Value.int (x1)), (2, Value.int (x2)), (3, Value.int (x3))] [] σ 0 0 (some (.int o.1)) o.2) (x0 : Nat) (x1 : Int32) (x2 : Int32) (x3 : Int32) (σ : aSt) (o : Int32 × aSt) (h : f_X8_weigh_30 rec4 x0 x1 x2 x3 σ = some o) : AW true m_X8_weigh 30 [(0, va_rf (some (x0))), (1, Value.int (x1)), (2, Value.int (x2)), (3, Value.int (x3))] [] σ 0 0 (some (.int o.1)) o.2 := by
  unfold f_X8_weigh_30 at h
  refine w_iinc (q := 3) (v := x3 + 1) dX8_weigh_30 rfl rfl (by decide) rfl ?_
  refine w_goto 4 dX8_weigh_33 (by decide) ?_
  refine w_sub [1, 2, 3, 0] rfl ?_
  exact hrec4 _ _ _ _ _ _ h
set_option maxRecDepth 100000 in
set_option maxHeartbeats 4000000 in
theorem l_X8_weigh_4_b (rec4 : Nat → Int32 → Int32 → Int32 → aSt → Option (Int32 × aSt)) (hrec4 : ∀ (x0 : Nat) (x1 : Int32) (x2 : Int32) (x3 : Int32) (σ : aSt) (o : Int32 × aSt), rec4 x0 x1 x2 x3 σ = some o → AW true m_X8_weigh 4 [(0, va_rf (some (x0))), (1, Value.int (x1)), (2, Value.int (x2)), (3, Value.int (x3))] [] σ 0 0 (some (.int o.1)) o.2) (x0 : Nat) (x1 : Int32) (x2 : Int32) (x3 : Int32) (σ : aSt) (o : Int32 × aSt) (h : f_X8_weigh_4_b rec4 x0 x1 x2 x3 σ = some o) : AW true m_X8_weigh 4 [(0, va_rf (some (x0))), (1, Value.int (x1)), (2, Value.int (x2)), (3, Value.int (x3))] [] σ 0 0 (some (.int o.1)) o.2 := by
  unfold f_X8_weigh_4_b at h
  refine w_iload_n 3 dX8_weigh_4 rfl rfl ?_
  refine w_aload_n 0 ((some (x0))) dX8_weigh_5 rfl rfl ?_
  replace h := e_grd h; obtain ⟨g1, h⟩ := h
  refine w_get dX8_weigh_6 fl_RX8_15 ⟨g1.1, Or.inl g1.2⟩ (aFv_i rfl) ?_
  refine w_icmp_ge 36 dX8_weigh_9 (by decide) (fun c2 => ?_) (fun c2 => ?_)
  · replace h := e_t c2 h
    refine w_iload_n 2 dX8_weigh_36 rfl rfl ?_
    obtain rfl := Option.some.inj h
    exact w_ireturn dX8_weigh_37 rfl (Nat.le_of_ble_eq_true rfl) (Nat.le_of_ble_eq_true rfl)
  · replace h := e_f c2 h
    refine w_iload_n 1 dX8_weigh_12 rfl rfl ?_
    refine w_iload_n 3 dX8_weigh_13 rfl rfl ?_
    refine w_ishr dX8_weigh_14 ?_
    refine w_iconst (v := 1) dX8_weigh_15 (by decide) ?_
    refine w_iand dX8_weigh_16 ?_
    refine w_iconst (v := 1) dX8_weigh_17 (by decide) ?_
    refine w_icmp_ne 30 dX8_weigh_18 (by decide) (fun c3 => ?_) (fun c3 => ?_)
    · replace h := e_f c3 h
      exact l_X8_weigh_30 rec4 hrec4 _ _ _ _ _ _ h
    · replace h := e_t c3 h
      refine w_iload_n 2 dX8_weigh_21 rfl rfl ?_
      refine w_aload_n 0 ((some (x0))) dX8_weigh_22 rfl rfl ?_
      refine w_get (v := va_rf (some ((x0 + 2)))) dX8_weigh_23 fl_RX8_19 ⟨g1.1, Or.inl g1.2⟩ (aFv_k rfl) ?_
      refine w_iload_n 3 dX8_weigh_26 rfl rfl ?_
      replace h := e_grd h; obtain ⟨g4, h⟩ := h
      replace h := e_grd h; obtain ⟨b5, h⟩ := h
      refine w_iaload dX8_weigh_27 ⟨g4.1, Or.inl g4.2⟩ b5 ?_
      refine w_iadd dX8_weigh_28 ?_
      refine w_istore_n dX8_weigh_29 rfl (by decide) rfl ?_
      refine w_sub [1, 2, 0, 3] rfl ?_
      exact l_X8_weigh_30 rec4 hrec4 _ _ _ _ _ _ h
theorem l_X8_weigh_4  : ∀ (n : Nat) (x0 : Nat) (x1 : Int32) (x2 : Int32) (x3 : Int32) (σ : aSt) (o : Int32 × aSt), f_X8_weigh_4  n x0 x1 x2 x3 σ = some o → AW true m_X8_weigh 4 [(0, va_rf (some (x0))), (1, Value.int (x1)), (2, Value.int (x2)), (3, Value.int (x3))] [] σ 0 0 (some (.int o.1)) o.2
  | 0 => fun x0 x1 x2 x3 σ o h => by cases h
  | n + 1 => fun x0 x1 x2 x3 σ o h => l_X8_weigh_4_b (f_X8_weigh_4  n) (l_X8_weigh_4  n) x0 x1 x2 x3 σ o h
set_option maxRecDepth 100000 in
set_option maxHeartbeats 4000000 in
theorem c_X8_weigh (p0 : Nat) (p1 : Int32) (σ : aSt) (o : Int32 × aSt) (h : f_X8_weigh p0 p1 σ = some o) : AM true m_X8_weigh [va_rf (some (p0)), .int (p1)] σ (some (.int o.1)) o.2 := by
  refine AM_of2 (lv := [(0, va_rf (some (p0))), (1, Value.int (p1))]) (by decide +kernel) rfl (Nat.le_of_ble_eq_true rfl) ?_
  unfold f_X8_weigh at h
  refine w_iconst (v := 0) dX8_weigh_0 (by decide) ?_
  refine w_istore_n dX8_weigh_1 rfl (by decide) rfl ?_
  refine w_iconst (v := 0) dX8_weigh_2 (by decide) ?_
  refine w_istore_n dX8_weigh_3 rfl (by decide) rfl ?_
  refine w_sub [2, 3, 1, 0] rfl ?_
  exact l_X8_weigh_4 aN _ _ _ _ _ _ h
theorem dX2_slotOf_0 : decode cX2_slotOf 0 = .ok (.iload_n 2, 1) := by decide +kernel
theorem dX2_slotOf_1 : decode cX2_slotOf 1 = .ok (.ifCond .ne 10, 3) := by decide +kernel
theorem dX2_slotOf_4 : decode cX2_slotOf 4 = .ok (.aload_n 1, 1) := by decide +kernel
theorem dX2_slotOf_5 : decode cX2_slotOf 5 = .ok (.getfield 71, 3) := by decide +kernel
theorem dX2_slotOf_8 : decode cX2_slotOf 8 = .ok (.goto 10, 3) := by decide +kernel
theorem dX2_slotOf_11 : decode cX2_slotOf 11 = .ok (.bipush 120, 2) := by decide +kernel
theorem dX2_slotOf_13 : decode cX2_slotOf 13 = .ok (.aload_n 1, 1) := by decide +kernel
theorem dX2_slotOf_14 : decode cX2_slotOf 14 = .ok (.getfield 71, 3) := by decide +kernel
theorem dX2_slotOf_17 : decode cX2_slotOf 17 = .ok (.iadd, 1) := by decide +kernel
theorem dX2_slotOf_18 : decode cX2_slotOf 18 = .ok (.istore_n 3, 1) := by decide +kernel
theorem dX2_slotOf_19 : decode cX2_slotOf 19 = .ok (.iload_n 3, 1) := by decide +kernel
theorem dX2_slotOf_20 : decode cX2_slotOf 20 = .ok (.iconst 0, 1) := by decide +kernel
theorem dX2_slotOf_21 : decode cX2_slotOf 21 = .ok (.aload_n 0, 1) := by decide +kernel
theorem dX2_slotOf_22 : decode cX2_slotOf 22 = .ok (.getfield 35, 3) := by decide +kernel
theorem dX2_slotOf_25 : decode cX2_slotOf 25 = .ok (.arraylength, 1) := by decide +kernel
theorem dX2_slotOf_26 : decode cX2_slotOf 26 = .ok (.iconst 1, 1) := by decide +kernel
theorem dX2_slotOf_27 : decode cX2_slotOf 27 = .ok (.isub, 1) := by decide +kernel
theorem dX2_slotOf_28 : decode cX2_slotOf 28 = .ok (.invokestatic 74, 3) := by decide +kernel
theorem dX2_slotOf_31 : decode cX2_slotOf 31 = .ok (.ifCond .ne 5, 3) := by decide +kernel
theorem dX2_slotOf_34 : decode cX2_slotOf 34 = .ok (.iconst 0, 1) := by decide +kernel
theorem dX2_slotOf_35 : decode cX2_slotOf 35 = .ok (.ireturn, 1) := by decide +kernel
theorem dX2_slotOf_36 : decode cX2_slotOf 36 = .ok (.aload_n 0, 1) := by decide +kernel
theorem dX2_slotOf_37 : decode cX2_slotOf 37 = .ok (.getfield 35, 3) := by decide +kernel
theorem dX2_slotOf_40 : decode cX2_slotOf 40 = .ok (.iload_n 3, 1) := by decide +kernel
theorem dX2_slotOf_41 : decode cX2_slotOf 41 = .ok (.iaload, 1) := by decide +kernel
theorem dX2_slotOf_42 : decode cX2_slotOf 42 = .ok (.iconst (-1), 1) := by decide +kernel
theorem dX2_slotOf_43 : decode cX2_slotOf 43 = .ok (.if_icmp .ne 59, 3) := by decide +kernel
theorem dX2_slotOf_46 : decode cX2_slotOf 46 = .ok (.aload_n 0, 1) := by decide +kernel
theorem dX2_slotOf_47 : decode cX2_slotOf 47 = .ok (.getfield 31, 3) := by decide +kernel
theorem dX2_slotOf_50 : decode cX2_slotOf 50 = .ok (.aload_n 0, 1) := by decide +kernel
theorem dX2_slotOf_51 : decode cX2_slotOf 51 = .ok (.getfield 46, 3) := by decide +kernel
theorem dX2_slotOf_54 : decode cX2_slotOf 54 = .ok (.aload_n 1, 1) := by decide +kernel
theorem dX2_slotOf_55 : decode cX2_slotOf 55 = .ok (.iload_n 2, 1) := by decide +kernel
theorem dX2_slotOf_56 : decode cX2_slotOf 56 = .ok (.aload_n 0, 1) := by decide +kernel
theorem dX2_slotOf_57 : decode cX2_slotOf 57 = .ok (.getfield 12, 3) := by decide +kernel
theorem dX2_slotOf_60 : decode cX2_slotOf 60 = .ok (.invokevirtual 59, 3) := by decide +kernel
theorem dX2_slotOf_63 : decode cX2_slotOf 63 = .ok (.aload_n 0, 1) := by decide +kernel
theorem dX2_slotOf_64 : decode cX2_slotOf 64 = .ok (.getfield 35, 3) := by decide +kernel
theorem dX2_slotOf_67 : decode cX2_slotOf 67 = .ok (.iload_n 3, 1) := by decide +kernel
theorem dX2_slotOf_68 : decode cX2_slotOf 68 = .ok (.aload_n 0, 1) := by decide +kernel
theorem dX2_slotOf_69 : decode cX2_slotOf 69 = .ok (.getfield 12, 3) := by decide +kernel
theorem dX2_slotOf_72 : decode cX2_slotOf 72 = .ok (.aload_n 0, 1) := by decide +kernel
theorem dX2_slotOf_73 : decode cX2_slotOf 73 = .ok (.getfield 31, 3) := by decide +kernel
theorem dX2_slotOf_76 : decode cX2_slotOf 76 = .ok (.getfield 78, 3) := by decide +kernel
theorem dX2_slotOf_79 : decode cX2_slotOf 79 = .ok (.invokevirtual 81, 3) := by decide +kernel
theorem dX2_slotOf_82 : decode cX2_slotOf 82 = .ok (.iastore, 1) := by decide +kernel
theorem dX2_slotOf_83 : decode cX2_slotOf 83 = .ok (.aload_n 0, 1) := by decide +kernel
theorem dX2_slotOf_84 : decode cX2_slotOf 84 = .ok (.getfield 39, 3) := by decide +kernel
theorem dX2_slotOf_87 : decode cX2_slotOf 87 = .ok (.iload_n 3, 1) := by decide +kernel
theorem dX2_slotOf_88 : decode cX2_slotOf 88 = .ok (.aload_n 0, 1) := by decide +kernel
theorem dX2_slotOf_89 : decode cX2_slotOf 89 = .ok (.getfield 12, 3) := by decide +kernel
theorem dX2_slotOf_92 : decode cX2_slotOf 92 = .ok (.aload_n 0, 1) := by decide +kernel
theorem dX2_slotOf_93 : decode cX2_slotOf 93 = .ok (.getfield 35, 3) := by decide +kernel
theorem dX2_slotOf_96 : decode cX2_slotOf 96 = .ok (.iload_n 3, 1) := by decide +kernel
theorem dX2_slotOf_97 : decode cX2_slotOf 97 = .ok (.iaload, 1) := by decide +kernel
theorem dX2_slotOf_98 : decode cX2_slotOf 98 = .ok (.invokevirtual 85, 3) := by decide +kernel
theorem dX2_slotOf_101 : decode cX2_slotOf 101 = .ok (.iastore, 1) := by decide +kernel
theorem dX2_slotOf_102 : decode cX2_slotOf 102 = .ok (.iload_n 3, 1) := by decide +kernel
theorem dX2_slotOf_103 : decode cX2_slotOf 103 = .ok (.ireturn, 1) := by decide +kernel
theorem kd_X2_slotOf : aKd m_X2_slotOf 2 := ⟨wd_34_2, wd_2_5, ⟨by decide +kernel, by decide +kernel, by decide +kernel⟩⟩
set_option maxRecDepth 100000 in
set_option maxHeartbeats 4000000 in
theorem l_X2_slotOf_102  (x3 : Int32) (σ : aSt) (o : Int32 × aSt) (h : f_X2_slotOf_102  x3 σ = some o) : AW true m_X2_slotOf 102 [(3, Value.int (x3))] [] σ 0 0 (some (.int o.1)) o.2 := by
  unfold f_X2_slotOf_102 at h
  refine w_iload_n 0 dX2_slotOf_102 rfl rfl ?_
  obtain rfl := Option.some.inj h
  exact w_ireturn dX2_slotOf_103 rfl (Nat.le_of_ble_eq_true rfl) (Nat.le_of_ble_eq_true rfl)
set_option maxRecDepth 100000 in
set_option maxHeartbeats 4000000 in
theorem l_X2_slotOf_18  (x1 : Nat) (x2 : Int32) (t0 : Int32) (σ : aSt) (o : Int32 × aSt) (h : f_X2_slotOf_18  x1 x2 t0 σ = some o) : AW true m_X2_slotOf 18 [(0, va_rf (some (11))), (1, va_rf (some (x1))), (2, Value.int (x2))] [.int (t0)] σ 0 0 (some (.int o.1)) o.2 := by
  unfold f_X2_slotOf_18 at h
  refine w_istore_n dX2_slotOf_18 rfl (by decide) rfl ?_
  refine w_iload_n 0 dX2_slotOf_19 rfl rfl ?_
  refine w_iconst (v := 0) dX2_slotOf_20 (by decide) ?_
  refine w_aload_n 1 ((some (11))) dX2_slotOf_21 rfl rfl ?_
  refine w_get (v := va_rf (some 23)) dX2_slotOf_22 fl_RX2_35 ⟨rfl, Or.inr ⟨rfl, by decide⟩⟩ (aFv_k rfl) ?_
  refine w_alenI dX2_slotOf_25 ⟨rfl, Or.inr ⟨rfl, by decide⟩⟩ ?_
  refine w_iconst (v := 1) dX2_slotOf_26 (by decide) ?_
  refine w_isub dX2_slotOf_27 ?_
  replace h := e_bind h; obtain ⟨q4, e5, h⟩ := h
  refine w_callSN1 (M2 := m_X11_within) (av := [.int (t0), .int (0), .int ((Int32.ofNat (aLn 23)) - 1)]) (host := RX11) (c_X11_within _ _ _ _ _ e5) dX2_slotOf_28 kd_X11_within (by decide +kernel) wd_9_23 rfl rfl ⟨Nat.le_of_ble_eq_true rfl, Nat.le_of_ble_eq_true rfl, Nat.le_of_ble_eq_true rfl, Nat.le_of_ble_eq_true rfl⟩ (Nat.le_of_ble_eq_true rfl) ?_
  refine w_if_ne 36 dX2_slotOf_31 (by decide) (fun c6 => ?_) (fun c6 => ?_)
  · replace h := e_f c6 h
    refine w_aload_n 1 ((some (11))) dX2_slotOf_36 rfl rfl ?_
    refine w_get (v := va_rf (some 23)) dX2_slotOf_37 fl_RX2_35 ⟨rfl, Or.inr ⟨rfl, by decide⟩⟩ (aFv_k rfl) ?_
    refine w_iload_n 0 dX2_slotOf_40 rfl rfl ?_
    replace h := e_grd h; obtain ⟨b7, h⟩ := h
    refine w_iaload dX2_slotOf_41 ⟨rfl, Or.inr ⟨rfl, by decide⟩⟩ b7 ?_
    refine w_iconst (v := (-1)) dX2_slotOf_42 (by decide) ?_
    refine w_icmp_ne 102 dX2_slotOf_43 (by decide) (fun c8 => ?_) (fun c8 => ?_)
    · replace h := e_f c8 h
      refine w_sub [0] rfl ?_
      exact l_X2_slotOf_102 _ _ _ h
    · replace h := e_t c8 h
      refine w_aload_n 1 ((some (11))) dX2_slotOf_46 rfl rfl ?_
      refine w_get (v := va_rf (some 20)) dX2_slotOf_47 fl_RX2_31 ⟨rfl, Or.inr ⟨rfl, by decide⟩⟩ (aFv_k rfl) ?_
      refine w_aload_n 1 ((some (11))) dX2_slotOf_50 rfl rfl ?_
      refine w_get (v := va_rf (some 2)) dX2_slotOf_51 fl_RX2_46 ⟨rfl, Or.inr ⟨rfl, by decide⟩⟩ (aFv_k rfl) ?_
      refine w_aload_n 2 ((some (x1))) dX2_slotOf_54 rfl rfl ?_
      refine w_iload_n 3 dX2_slotOf_55 rfl rfl ?_
      refine w_aload_n 1 ((some (11))) dX2_slotOf_56 rfl rfl ?_
      refine w_get dX2_slotOf_57 fl_RX2_12 ⟨rfl, Or.inr ⟨rfl, by decide⟩⟩ (aFv_q (Or.inl rfl)) ?_
      replace h := e_bind h; obtain ⟨q9, e10, h⟩ := h
      refine w_callV0 (M2 := m_X7_gather) (av := [va_rf (some (2)), va_rf (some (x1)), .int (x2), va_rf (gR q4.2 11 0)]) (ci := 7) (c_X7_gather _ _ _ _ _ e10) dX2_slotOf_60 kd_X7_gather wd_18_19 wd_18_20 wd_18_21 rfl rfl ⟨rfl, Or.inr ⟨rfl, by decide⟩⟩ rfl ⟨Nat.le_of_ble_eq_true rfl, Nat.le_of_ble_eq_true rfl, Nat.le_of_ble_eq_true rfl, Nat.le_of_ble_eq_true rfl⟩ (Nat.le_of_ble_eq_true rfl) ?_
      refine w_aload_n 1 ((some (11))) dX2_slotOf_63 rfl rfl ?_
      refine w_get (v := va_rf (some 23)) dX2_slotOf_64 fl_RX2_35 ⟨rfl, Or.inr ⟨rfl, by decide⟩⟩ (aFv_k rfl) ?_
      refine w_iload_n 0 dX2_slotOf_67 rfl rfl ?_
      refine w_aload_n 1 ((some (11))) dX2_slotOf_68 rfl rfl ?_
      refine w_get dX2_slotOf_69 fl_RX2_12 ⟨rfl, Or.inr ⟨rfl, by decide⟩⟩ (aFv_q (Or.inl rfl)) ?_
      refine w_aload_n 1 ((some (11))) dX2_slotOf_72 rfl rfl ?_
      refine w_get (v := va_rf (some 20)) dX2_slotOf_73 fl_RX2_31 ⟨rfl, Or.inr ⟨rfl, by decide⟩⟩ (aFv_k rfl) ?_
      refine w_get (v := va_rf (some 21)) dX2_slotOf_76 fl_RX2_78 ⟨rfl, Or.inr ⟨rfl, by decide⟩⟩ (aFv_k rfl) ?_
      replace h := e_oS h; obtain ⟨a11, r12, h⟩ := h
      rw [r12]
      replace h := e_grd h; obtain ⟨g15, h⟩ := h
      replace h := e_bind h; obtain ⟨q13, e14, h⟩ := h
      refine w_callV1 (M2 := m_X8_thatHold) (av := [va_rf (some (21))]) (ci := 8) (c_X8_thatHold _ _ _ e14) dX2_slotOf_79 kd_X8_thatHold wd_34_5 wd_34_6 wd_34_7 rfl rfl ⟨g15.1, Or.inl g15.2⟩ rfl ⟨Nat.le_of_ble_eq_true rfl, Nat.le_of_ble_eq_true rfl, Nat.le_of_ble_eq_true rfl, Nat.le_of_ble_eq_true rfl⟩ (Nat.le_of_ble_eq_true rfl) ?_
      replace h := e_grd h; obtain ⟨b16, h⟩ := h
      refine w_iastore dX2_slotOf_82 ⟨rfl, Or.inr ⟨rfl, by decide⟩⟩ b16 ?_
      refine w_aload_n 1 ((some (11))) dX2_slotOf_83 rfl rfl ?_
      refine w_get (v := va_rf (some 24)) dX2_slotOf_84 fl_RX2_39 ⟨rfl, Or.inr ⟨rfl, by decide⟩⟩ (aFv_k rfl) ?_
      refine w_iload_n 0 dX2_slotOf_87 rfl rfl ?_
      refine w_aload_n 1 ((some (11))) dX2_slotOf_88 rfl rfl ?_
      refine w_get dX2_slotOf_89 fl_RX2_12 ⟨rfl, Or.inr ⟨rfl, by decide⟩⟩ (aFv_q (Or.inl rfl)) ?_
      refine w_aload_n 1 ((some (11))) dX2_slotOf_92 rfl rfl ?_
      refine w_get (v := va_rf (some 23)) dX2_slotOf_93 fl_RX2_35 ⟨rfl, Or.inr ⟨rfl, by decide⟩⟩ (aFv_k rfl) ?_
      refine w_iload_n 0 dX2_slotOf_96 rfl rfl ?_
      replace h := e_grd h; obtain ⟨b17, h⟩ := h
      refine w_iaload dX2_slotOf_97 ⟨rfl, Or.inr ⟨rfl, by decide⟩⟩ b17 ?_
      replace h := e_oS h; obtain ⟨a18, r19, h⟩ := h
      rw [r19]
      replace h := e_grd h; obtain ⟨g22, h⟩ := h
      replace h := e_bind h; obtain ⟨q20, e21, h⟩ := h
      refine w_callV1 (M2 := m_X8_weigh) (av := [.int (gI (sI q13.2 23 t0.toNatClampNeg (q13.1)) 23 t0.toNatClampNeg)]) (ci := 8) (c_X8_weigh _ _ _ _ e21) dX2_slotOf_98 kd_X8_weigh wd_34_13 wd_34_14 wd_34_15 rfl rfl ⟨g22.1, Or.inl g22.2⟩ rfl ⟨Nat.le_of_ble_eq_true rfl, Nat.le_of_ble_eq_true rfl, Nat.le_of_ble_eq_true rfl, Nat.le_of_ble_eq_true rfl⟩ (Nat.le_of_ble_eq_true rfl) ?_
      replace h := e_grd h; obtain ⟨b23, h⟩ := h
      refine w_iastore dX2_slotOf_101 ⟨rfl, Or.inr ⟨rfl, by decide⟩⟩ b23 ?_
      refine w_sub [0] rfl ?_
      exact l_X2_slotOf_102 _ _ _ h
  · replace h := e_t c6 h
    refine w_iconst (v := 0) dX2_slotOf_34 (by decide) ?_
    obtain rfl := Option.some.inj h
    exact w_ireturn dX2_slotOf_35 rfl (Nat.le_of_ble_eq_true rfl) (Nat.le_of_ble_eq_true rfl)
set_option maxRecDepth 100000 in
set_option maxHeartbeats 4000000 in
theorem c_X2_slotOf (p1 : Nat) (p2 : Int32) (σ : aSt) (o : Int32 × aSt) (h : f_X2_slotOf p1 p2 σ = some o) : AM true m_X2_slotOf [va_rf (some (11)), va_rf (some (p1)), .int (p2)] σ (some (.int o.1)) o.2 := by
  refine AM_of2 (lv := [(0, va_rf (some (11))), (1, va_rf (some (p1))), (2, Value.int (p2))]) (by decide +kernel) rfl (Nat.le_of_ble_eq_true rfl) ?_
  unfold f_X2_slotOf at h
  refine w_iload_n 2 dX2_slotOf_0 rfl rfl ?_
  refine w_if_ne 11 dX2_slotOf_1 (by decide) (fun c1 => ?_) (fun c1 => ?_)
  · replace h := e_f c1 h
    refine w_bipush (v := 120) dX2_slotOf_11 (by decide) ?_
    refine w_aload_n 1 ((some (p1))) dX2_slotOf_13 rfl rfl ?_
    replace h := e_grd h; obtain ⟨g2, h⟩ := h
    refine w_get dX2_slotOf_14 fl_RX2_71 ⟨g2.1, Or.inl g2.2⟩ (aFv_i rfl) ?_
    refine w_iadd dX2_slotOf_17 ?_
    exact l_X2_slotOf_18 _ _ _ _ _ h
  · replace h := e_t c1 h
    refine w_aload_n 1 ((some (p1))) dX2_slotOf_4 rfl rfl ?_
    replace h := e_grd h; obtain ⟨g3, h⟩ := h
    refine w_get dX2_slotOf_5 fl_RX2_71 ⟨g3.1, Or.inl g3.2⟩ (aFv_i rfl) ?_
    refine w_goto 18 dX2_slotOf_8 (by decide) ?_
    exact l_X2_slotOf_18 _ _ _ _ _ h
theorem dX2_scoreOf_0 : decode cX2_scoreOf 0 = .ok (.aload_n 0, 1) := by decide +kernel
theorem dX2_scoreOf_1 : decode cX2_scoreOf 1 = .ok (.getfield 39, 3) := by decide +kernel
theorem dX2_scoreOf_4 : decode cX2_scoreOf 4 = .ok (.aload_n 0, 1) := by decide +kernel
theorem dX2_scoreOf_5 : decode cX2_scoreOf 5 = .ok (.aload_n 1, 1) := by decide +kernel
theorem dX2_scoreOf_6 : decode cX2_scoreOf 6 = .ok (.iload_n 2, 1) := by decide +kernel
theorem dX2_scoreOf_7 : decode cX2_scoreOf 7 = .ok (.invokevirtual 63, 3) := by decide +kernel
theorem dX2_scoreOf_10 : decode cX2_scoreOf 10 = .ok (.iaload, 1) := by decide +kernel
theorem dX2_scoreOf_11 : decode cX2_scoreOf 11 = .ok (.ireturn, 1) := by decide +kernel
theorem kd_X2_scoreOf : aKd m_X2_scoreOf 2 := ⟨wd_33_22, wd_2_5, ⟨by decide +kernel, by decide +kernel, by decide +kernel⟩⟩
set_option maxRecDepth 100000 in
set_option maxHeartbeats 4000000 in
theorem c_X2_scoreOf (p1 : Nat) (p2 : Int32) (σ : aSt) (o : Int32 × aSt) (h : f_X2_scoreOf p1 p2 σ = some o) : AM true m_X2_scoreOf [va_rf (some (11)), va_rf (some (p1)), .int (p2)] σ (some (.int o.1)) o.2 := by
  refine AM_of2 (lv := [(0, va_rf (some (11))), (1, va_rf (some (p1))), (2, Value.int (p2))]) (by decide +kernel) rfl (Nat.le_of_ble_eq_true rfl) ?_
  unfold f_X2_scoreOf at h
  refine w_aload_n 0 ((some (11))) dX2_scoreOf_0 rfl rfl ?_
  refine w_get (v := va_rf (some 24)) dX2_scoreOf_1 fl_RX2_39 ⟨rfl, Or.inr ⟨rfl, by decide⟩⟩ (aFv_k rfl) ?_
  refine w_aload_n 0 ((some (11))) dX2_scoreOf_4 rfl rfl ?_
  refine w_aload_n 1 ((some (p1))) dX2_scoreOf_5 rfl rfl ?_
  refine w_iload_n 2 dX2_scoreOf_6 rfl rfl ?_
  replace h := e_bind h; obtain ⟨q1, e2, h⟩ := h
  refine w_callV1 (M2 := m_X2_slotOf) (av := [va_rf (some (p1)), .int (p2)]) (ci := 2) (c_X2_slotOf _ _ _ _ e2) dX2_scoreOf_7 kd_X2_slotOf wd_33_23 wd_34_0 wd_34_1 rfl rfl ⟨rfl, Or.inr ⟨rfl, by decide⟩⟩ rfl ⟨Nat.le_of_ble_eq_true rfl, Nat.le_of_ble_eq_true rfl, Nat.le_of_ble_eq_true rfl, Nat.le_of_ble_eq_true rfl⟩ (Nat.le_of_ble_eq_true rfl) ?_
  replace h := e_grd h; obtain ⟨b3, h⟩ := h
  refine w_iaload dX2_scoreOf_10 ⟨rfl, Or.inr ⟨rfl, by decide⟩⟩ b3 ?_
  obtain rfl := Option.some.inj h
  exact w_ireturn dX2_scoreOf_11 rfl (Nat.le_of_ble_eq_true rfl) (Nat.le_of_ble_eq_true rfl)
theorem dX8_actAt_0 : decode cX8_actAt 0 = .ok (.iload_n 1, 1) := by decide +kernel
theorem dX8_actAt_1 : decode cX8_actAt 1 = .ok (.aload_n 0, 1) := by decide +kernel
theorem dX8_actAt_2 : decode cX8_actAt 2 = .ok (.getfield 11, 3) := by decide +kernel
theorem dX8_actAt_5 : decode cX8_actAt 5 = .ok (.iconst 3, 1) := by decide +kernel
theorem dX8_actAt_6 : decode cX8_actAt 6 = .ok (.iaload, 1) := by decide +kernel
theorem dX8_actAt_7 : decode cX8_actAt 7 = .ok (.if_icmp .lt 7, 3) := by decide +kernel
theorem dX8_actAt_10 : decode cX8_actAt 10 = .ok (.iconst 2, 1) := by decide +kernel
theorem dX8_actAt_11 : decode cX8_actAt 11 = .ok (.goto 18, 3) := by decide +kernel
theorem dX8_actAt_14 : decode cX8_actAt 14 = .ok (.iload_n 1, 1) := by decide +kernel
theorem dX8_actAt_15 : decode cX8_actAt 15 = .ok (.aload_n 0, 1) := by decide +kernel
theorem dX8_actAt_16 : decode cX8_actAt 16 = .ok (.getfield 11, 3) := by decide +kernel
theorem dX8_actAt_19 : decode cX8_actAt 19 = .ok (.iconst 2, 1) := by decide +kernel
theorem dX8_actAt_20 : decode cX8_actAt 20 = .ok (.iaload, 1) := by decide +kernel
theorem dX8_actAt_21 : decode cX8_actAt 21 = .ok (.if_icmp .lt 7, 3) := by decide +kernel
theorem dX8_actAt_24 : decode cX8_actAt 24 = .ok (.iconst 1, 1) := by decide +kernel
theorem dX8_actAt_25 : decode cX8_actAt 25 = .ok (.goto 4, 3) := by decide +kernel
theorem dX8_actAt_28 : decode cX8_actAt 28 = .ok (.iconst 0, 1) := by decide +kernel
theorem dX8_actAt_29 : decode cX8_actAt 29 = .ok (.ireturn, 1) := by decide +kernel
theorem kd_X8_actAt : aKd m_X8_actAt 1 := ⟨wd_35_0, wd_2_21, ⟨by decide +kernel, by decide +kernel, by decide +kernel⟩⟩
set_option maxRecDepth 100000 in
set_option maxHeartbeats 4000000 in
theorem l_X8_actAt_29  (t0 : Int32) (σ : aSt) (o : Int32 × aSt) (h : f_X8_actAt_29  t0 σ = some o) : AW true m_X8_actAt 29 [] [.int (t0)] σ 0 0 (some (.int o.1)) o.2 := by
  unfold f_X8_actAt_29 at h
  obtain rfl := Option.some.inj h
  exact w_ireturn dX8_actAt_29 rfl (Nat.le_of_ble_eq_true rfl) (Nat.le_of_ble_eq_true rfl)
set_option maxRecDepth 100000 in
set_option maxHeartbeats 4000000 in
theorem c_X8_actAt (p0 : Nat) (p1 : Int32) (σ : aSt) (o : Int32 × aSt) (h : f_X8_actAt p0 p1 σ = some o) : AM true m_X8_actAt [va_rf (some (p0)), .int (p1)] σ (some (.int o.1)) o.2 := by
  refine AM_of2 (lv := [(0, va_rf (some (p0))), (1, Value.int (p1))]) (by decide +kernel) rfl (Nat.le_of_ble_eq_true rfl) ?_
  unfold f_X8_actAt at h
  refine w_iload_n 1 dX8_actAt_0 rfl rfl ?_
  refine w_aload_n 0 ((some (p0))) dX8_actAt_1 rfl rfl ?_
  replace h := e_grd h; obtain ⟨g1, h⟩ := h
  refine w_get (v := va_rf (some ((p0 + 1)))) dX8_actAt_2 fl_RX8_11 ⟨g1.1, Or.inl g1.2⟩ (aFv_k rfl) ?_
  refine w_iconst (v := 3) dX8_actAt_5 (by decide) ?_
  replace h := e_grd h; obtain ⟨g2, h⟩ := h
  replace h := e_grd h; obtain ⟨b3, h⟩ := h
  refine w_iaload dX8_actAt_6 ⟨g2.1, Or.inl g2.2⟩ b3 ?_
  refine w_icmp_lt 14 dX8_actAt_7 (by decide) (fun c4 => ?_) (fun c4 => ?_)
  · replace h := e_t c4 h
    refine w_iload_n 1 dX8_actAt_14 rfl rfl ?_
    refine w_aload_n 0 ((some (p0))) dX8_actAt_15 rfl rfl ?_
    refine w_get (v := va_rf (some ((p0 + 1)))) dX8_actAt_16 fl_RX8_11 ⟨g1.1, Or.inl g1.2⟩ (aFv_k rfl) ?_
    refine w_iconst (v := 2) dX8_actAt_19 (by decide) ?_
    replace h := e_grd h; obtain ⟨b5, h⟩ := h
    refine w_iaload dX8_actAt_20 ⟨g2.1, Or.inl g2.2⟩ b5 ?_
    refine w_icmp_lt 28 dX8_actAt_21 (by decide) (fun c6 => ?_) (fun c6 => ?_)
    · replace h := e_t c6 h
      refine w_iconst (v := 0) dX8_actAt_28 (by decide) ?_
      refine w_sub [] rfl ?_
      exact l_X8_actAt_29 _ _ _ h
    · replace h := e_f c6 h
      refine w_iconst (v := 1) dX8_actAt_24 (by decide) ?_
      refine w_goto 29 dX8_actAt_25 (by decide) ?_
      refine w_sub [] rfl ?_
      exact l_X8_actAt_29 _ _ _ h
  · replace h := e_f c4 h
    refine w_iconst (v := 2) dX8_actAt_10 (by decide) ?_
    refine w_goto 29 dX8_actAt_11 (by decide) ?_
    refine w_sub [] rfl ?_
    exact l_X8_actAt_29 _ _ _ h
theorem dX2_actOf_0 : decode cX2_actOf 0 = .ok (.aload_n 0, 1) := by decide +kernel
theorem dX2_actOf_1 : decode cX2_actOf 1 = .ok (.getfield 12, 3) := by decide +kernel
theorem dX2_actOf_4 : decode cX2_actOf 4 = .ok (.aload_n 0, 1) := by decide +kernel
theorem dX2_actOf_5 : decode cX2_actOf 5 = .ok (.getfield 39, 3) := by decide +kernel
theorem dX2_actOf_8 : decode cX2_actOf 8 = .ok (.aload_n 0, 1) := by decide +kernel
theorem dX2_actOf_9 : decode cX2_actOf 9 = .ok (.aload_n 1, 1) := by decide +kernel
theorem dX2_actOf_10 : decode cX2_actOf 10 = .ok (.iload_n 2, 1) := by decide +kernel
theorem dX2_actOf_11 : decode cX2_actOf 11 = .ok (.invokevirtual 63, 3) := by decide +kernel
theorem dX2_actOf_14 : decode cX2_actOf 14 = .ok (.iaload, 1) := by decide +kernel
theorem dX2_actOf_15 : decode cX2_actOf 15 = .ok (.invokevirtual 67, 3) := by decide +kernel
theorem dX2_actOf_18 : decode cX2_actOf 18 = .ok (.ireturn, 1) := by decide +kernel
theorem kd_X2_actOf : aKd m_X2_actOf 2 := ⟨wd_34_20, wd_2_5, ⟨by decide +kernel, by decide +kernel, by decide +kernel⟩⟩
set_option maxRecDepth 100000 in
set_option maxHeartbeats 4000000 in
theorem c_X2_actOf (p1 : Nat) (p2 : Int32) (σ : aSt) (o : Int32 × aSt) (h : f_X2_actOf p1 p2 σ = some o) : AM true m_X2_actOf [va_rf (some (11)), va_rf (some (p1)), .int (p2)] σ (some (.int o.1)) o.2 := by
  refine AM_of2 (lv := [(0, va_rf (some (11))), (1, va_rf (some (p1))), (2, Value.int (p2))]) (by decide +kernel) rfl (Nat.le_of_ble_eq_true rfl) ?_
  unfold f_X2_actOf at h
  refine w_aload_n 0 ((some (11))) dX2_actOf_0 rfl rfl ?_
  refine w_get dX2_actOf_1 fl_RX2_12 ⟨rfl, Or.inr ⟨rfl, by decide⟩⟩ (aFv_q (Or.inl rfl)) ?_
  refine w_aload_n 0 ((some (11))) dX2_actOf_4 rfl rfl ?_
  refine w_get (v := va_rf (some 24)) dX2_actOf_5 fl_RX2_39 ⟨rfl, Or.inr ⟨rfl, by decide⟩⟩ (aFv_k rfl) ?_
  refine w_aload_n 0 ((some (11))) dX2_actOf_8 rfl rfl ?_
  refine w_aload_n 1 ((some (p1))) dX2_actOf_9 rfl rfl ?_
  refine w_iload_n 2 dX2_actOf_10 rfl rfl ?_
  replace h := e_bind h; obtain ⟨q1, e2, h⟩ := h
  refine w_callV1 (M2 := m_X2_slotOf) (av := [va_rf (some (p1)), .int (p2)]) (ci := 2) (c_X2_slotOf _ _ _ _ e2) dX2_actOf_11 kd_X2_slotOf wd_33_23 wd_34_0 wd_34_1 rfl rfl ⟨rfl, Or.inr ⟨rfl, by decide⟩⟩ rfl ⟨Nat.le_of_ble_eq_true rfl, Nat.le_of_ble_eq_true rfl, Nat.le_of_ble_eq_true rfl, Nat.le_of_ble_eq_true rfl⟩ (by simp [aRf_cat, aI_cat, aL_cat]) ?_
  replace h := e_grd h; obtain ⟨b3, h⟩ := h
  refine w_iaload dX2_actOf_14 ⟨rfl, Or.inr ⟨rfl, by decide⟩⟩ b3 ?_
  replace h := e_oS h; obtain ⟨a4, r5, h⟩ := h
  rw [r5]
  replace h := e_grd h; obtain ⟨g8, h⟩ := h
  replace h := e_bind h; obtain ⟨q6, e7, h⟩ := h
  refine w_callV1 (M2 := m_X8_actAt) (av := [.int (gI q1.2 24 q1.1.toNatClampNeg)]) (ci := 8) (c_X8_actAt _ _ _ _ e7) dX2_actOf_15 kd_X8_actAt wd_34_21 wd_34_22 wd_34_23 rfl rfl ⟨g8.1, Or.inl g8.2⟩ rfl ⟨Nat.le_of_ble_eq_true rfl, Nat.le_of_ble_eq_true rfl, Nat.le_of_ble_eq_true rfl, Nat.le_of_ble_eq_true rfl⟩ (Nat.le_of_ble_eq_true rfl) ?_
  obtain rfl := Option.some.inj h
  exact w_ireturn dX2_actOf_18 rfl (Nat.le_of_ble_eq_true rfl) (Nat.le_of_ble_eq_true rfl)
theorem dX2_heldBy_0 : decode cX2_heldBy 0 = .ok (.aload_n 0, 1) := by decide +kernel
theorem dX2_heldBy_1 : decode cX2_heldBy 1 = .ok (.getfield 35, 3) := by decide +kernel
theorem dX2_heldBy_4 : decode cX2_heldBy 4 = .ok (.aload_n 0, 1) := by decide +kernel
theorem dX2_heldBy_5 : decode cX2_heldBy 5 = .ok (.aload_n 1, 1) := by decide +kernel
theorem dX2_heldBy_6 : decode cX2_heldBy 6 = .ok (.iload_n 2, 1) := by decide +kernel
theorem dX2_heldBy_7 : decode cX2_heldBy 7 = .ok (.invokevirtual 63, 3) := by decide +kernel
theorem dX2_heldBy_10 : decode cX2_heldBy 10 = .ok (.iaload, 1) := by decide +kernel
theorem dX2_heldBy_11 : decode cX2_heldBy 11 = .ok (.ireturn, 1) := by decide +kernel
theorem kd_X2_heldBy : aKd m_X2_heldBy 2 := ⟨wd_35_4, wd_2_5, ⟨by decide +kernel, by decide +kernel, by decide +kernel⟩⟩
set_option maxRecDepth 100000 in
set_option maxHeartbeats 4000000 in
theorem c_X2_heldBy (p1 : Nat) (p2 : Int32) (σ : aSt) (o : Int32 × aSt) (h : f_X2_heldBy p1 p2 σ = some o) : AM true m_X2_heldBy [va_rf (some (11)), va_rf (some (p1)), .int (p2)] σ (some (.int o.1)) o.2 := by
  refine AM_of2 (lv := [(0, va_rf (some (11))), (1, va_rf (some (p1))), (2, Value.int (p2))]) (by decide +kernel) rfl (Nat.le_of_ble_eq_true rfl) ?_
  unfold f_X2_heldBy at h
  refine w_aload_n 0 ((some (11))) dX2_heldBy_0 rfl rfl ?_
  refine w_get (v := va_rf (some 23)) dX2_heldBy_1 fl_RX2_35 ⟨rfl, Or.inr ⟨rfl, by decide⟩⟩ (aFv_k rfl) ?_
  refine w_aload_n 0 ((some (11))) dX2_heldBy_4 rfl rfl ?_
  refine w_aload_n 1 ((some (p1))) dX2_heldBy_5 rfl rfl ?_
  refine w_iload_n 2 dX2_heldBy_6 rfl rfl ?_
  replace h := e_bind h; obtain ⟨q1, e2, h⟩ := h
  refine w_callV1 (M2 := m_X2_slotOf) (av := [va_rf (some (p1)), .int (p2)]) (ci := 2) (c_X2_slotOf _ _ _ _ e2) dX2_heldBy_7 kd_X2_slotOf wd_33_23 wd_34_0 wd_34_1 rfl rfl ⟨rfl, Or.inr ⟨rfl, by decide⟩⟩ rfl ⟨Nat.le_of_ble_eq_true rfl, Nat.le_of_ble_eq_true rfl, Nat.le_of_ble_eq_true rfl, Nat.le_of_ble_eq_true rfl⟩ (Nat.le_of_ble_eq_true rfl) ?_
  replace h := e_grd h; obtain ⟨b3, h⟩ := h
  refine w_iaload dX2_heldBy_10 ⟨rfl, Or.inr ⟨rfl, by decide⟩⟩ b3 ?_
  obtain rfl := Option.some.inj h
  exact w_ireturn dX2_heldBy_11 rfl (Nat.le_of_ble_eq_true rfl) (Nat.le_of_ble_eq_true rfl)
theorem dX8_heaviest_0 : decode cX8_heaviest 0 = .ok (.iconst 0, 1) := by decide +kernel
theorem dX8_heaviest_1 : decode cX8_heaviest 1 = .ok (.istore_n 3, 1) := by decide +kernel
theorem dX8_heaviest_2 : decode cX8_heaviest 2 = .ok (.iload_n 1, 1) := by decide +kernel
theorem dX8_heaviest_3 : decode cX8_heaviest 3 = .ok (.istore 4, 2) := by decide +kernel
theorem dX8_heaviest_5 : decode cX8_heaviest 5 = .ok (.iconst 0, 1) := by decide +kernel
theorem dX8_heaviest_6 : decode cX8_heaviest 6 = .ok (.istore 5, 2) := by decide +kernel
theorem dX8_heaviest_8 : decode cX8_heaviest 8 = .ok (.iload 5, 2) := by decide +kernel
theorem dX8_heaviest_10 : decode cX8_heaviest 10 = .ok (.iload_n 2, 1) := by decide +kernel
theorem dX8_heaviest_11 : decode cX8_heaviest 11 = .ok (.if_icmp .ge 94, 3) := by decide +kernel
theorem dX8_heaviest_14 : decode cX8_heaviest 14 = .ok (.iconst (-1), 1) := by decide +kernel
theorem dX8_heaviest_15 : decode cX8_heaviest 15 = .ok (.istore 6, 2) := by decide +kernel
theorem dX8_heaviest_17 : decode cX8_heaviest 17 = .ok (.iconst 0, 1) := by decide +kernel
theorem dX8_heaviest_18 : decode cX8_heaviest 18 = .ok (.istore 7, 2) := by decide +kernel
theorem dX8_heaviest_20 : decode cX8_heaviest 20 = .ok (.iload 7, 2) := by decide +kernel
theorem dX8_heaviest_22 : decode cX8_heaviest 22 = .ok (.aload_n 0, 1) := by decide +kernel
theorem dX8_heaviest_23 : decode cX8_heaviest 23 = .ok (.getfield 15, 3) := by decide +kernel
theorem dX8_heaviest_26 : decode cX8_heaviest 26 = .ok (.if_icmp .ge 46, 3) := by decide +kernel
theorem dX8_heaviest_29 : decode cX8_heaviest 29 = .ok (.iload 4, 2) := by decide +kernel
theorem dX8_heaviest_31 : decode cX8_heaviest 31 = .ok (.iload 7, 2) := by decide +kernel
theorem dX8_heaviest_33 : decode cX8_heaviest 33 = .ok (.ishr, 1) := by decide +kernel
theorem dX8_heaviest_34 : decode cX8_heaviest 34 = .ok (.iconst 1, 1) := by decide +kernel
theorem dX8_heaviest_35 : decode cX8_heaviest 35 = .ok (.iand, 1) := by decide +kernel
theorem dX8_heaviest_36 : decode cX8_heaviest 36 = .ok (.iconst 1, 1) := by decide +kernel
theorem dX8_heaviest_37 : decode cX8_heaviest 37 = .ok (.if_icmp .ne 29, 3) := by decide +kernel
theorem dX8_heaviest_40 : decode cX8_heaviest 40 = .ok (.iload 6, 2) := by decide +kernel
theorem dX8_heaviest_42 : decode cX8_heaviest 42 = .ok (.ifCond .lt 20, 3) := by decide +kernel
theorem dX8_heaviest_45 : decode cX8_heaviest 45 = .ok (.aload_n 0, 1) := by decide +kernel
theorem dX8_heaviest_46 : decode cX8_heaviest 46 = .ok (.getfield 19, 3) := by decide +kernel
theorem dX8_heaviest_49 : decode cX8_heaviest 49 = .ok (.iload 7, 2) := by decide +kernel
theorem dX8_heaviest_51 : decode cX8_heaviest 51 = .ok (.iaload, 1) := by decide +kernel
theorem dX8_heaviest_52 : decode cX8_heaviest 52 = .ok (.aload_n 0, 1) := by decide +kernel
theorem dX8_heaviest_53 : decode cX8_heaviest 53 = .ok (.getfield 19, 3) := by decide +kernel
theorem dX8_heaviest_56 : decode cX8_heaviest 56 = .ok (.iload 6, 2) := by decide +kernel
theorem dX8_heaviest_58 : decode cX8_heaviest 58 = .ok (.iaload, 1) := by decide +kernel
theorem dX8_heaviest_59 : decode cX8_heaviest 59 = .ok (.if_icmp .le 7, 3) := by decide +kernel
theorem dX8_heaviest_62 : decode cX8_heaviest 62 = .ok (.iload 7, 2) := by decide +kernel
theorem dX8_heaviest_64 : decode cX8_heaviest 64 = .ok (.istore 6, 2) := by decide +kernel
theorem dX8_heaviest_66 : decode cX8_heaviest 66 = .ok (.iinc 7 1, 3) := by decide +kernel
theorem dX8_heaviest_69 : decode cX8_heaviest 69 = .ok (.goto (-49), 3) := by decide +kernel
theorem dX8_heaviest_72 : decode cX8_heaviest 72 = .ok (.iload 6, 2) := by decide +kernel
theorem dX8_heaviest_74 : decode cX8_heaviest 74 = .ok (.ifCond .ge 6, 3) := by decide +kernel
theorem dX8_heaviest_77 : decode cX8_heaviest 77 = .ok (.goto 28, 3) := by decide +kernel
theorem dX8_heaviest_80 : decode cX8_heaviest 80 = .ok (.iload_n 3, 1) := by decide +kernel
theorem dX8_heaviest_81 : decode cX8_heaviest 81 = .ok (.aload_n 0, 1) := by decide +kernel
theorem dX8_heaviest_82 : decode cX8_heaviest 82 = .ok (.getfield 19, 3) := by decide +kernel
theorem dX8_heaviest_85 : decode cX8_heaviest 85 = .ok (.iload 6, 2) := by decide +kernel
theorem dX8_heaviest_87 : decode cX8_heaviest 87 = .ok (.iaload, 1) := by decide +kernel
theorem dX8_heaviest_88 : decode cX8_heaviest 88 = .ok (.iadd, 1) := by decide +kernel
theorem dX8_heaviest_89 : decode cX8_heaviest 89 = .ok (.istore_n 3, 1) := by decide +kernel
theorem dX8_heaviest_90 : decode cX8_heaviest 90 = .ok (.iload 4, 2) := by decide +kernel
theorem dX8_heaviest_92 : decode cX8_heaviest 92 = .ok (.iconst 1, 1) := by decide +kernel
theorem dX8_heaviest_93 : decode cX8_heaviest 93 = .ok (.iload 6, 2) := by decide +kernel
theorem dX8_heaviest_95 : decode cX8_heaviest 95 = .ok (.ishl, 1) := by decide +kernel
theorem dX8_heaviest_96 : decode cX8_heaviest 96 = .ok (.ixor, 1) := by decide +kernel
theorem dX8_heaviest_97 : decode cX8_heaviest 97 = .ok (.istore 4, 2) := by decide +kernel
theorem dX8_heaviest_99 : decode cX8_heaviest 99 = .ok (.iinc 5 1, 3) := by decide +kernel
theorem dX8_heaviest_102 : decode cX8_heaviest 102 = .ok (.goto (-94), 3) := by decide +kernel
theorem dX8_heaviest_105 : decode cX8_heaviest 105 = .ok (.iload_n 3, 1) := by decide +kernel
theorem dX8_heaviest_106 : decode cX8_heaviest 106 = .ok (.ireturn, 1) := by decide +kernel
theorem kd_X8_heaviest : aKd m_X8_heaviest 2 := ⟨wd_35_23, wd_2_21, ⟨by decide +kernel, by decide +kernel, by decide +kernel⟩⟩
set_option maxRecDepth 100000 in
set_option maxHeartbeats 4000000 in
theorem l_X8_heaviest_66 (rec8 : Nat → Int32 → Int32 → Int32 → Int32 → aSt → Option (Int32 × aSt)) (hrec8 : ∀ (x0 : Nat) (x2 : Int32) (x3 : Int32) (x4 : Int32) (x5 : Int32) (σ : aSt) (o : Int32 × aSt), rec8 x0 x2 x3 x4 x5 σ = some o → AW true m_X8_heaviest 8 [(0, va_rf (some (x0))), (2, Value.int (x2)), (3, Value.int (x3)), (4, Value.int (x4)), (5, Value.int (x5))] [] σ 0 0 (some (.int o.1)) o.2) (rec20 : Nat → Int32 → Int32 → Int32 → Int32 → Int32 → Int32 → aSt → Option (Int32 × aSt)) (hrec20 : ∀ (x0 : Nat) (x2 : Int32) (x3 : Int32) (x4 : Int32) (x5 : Int32) (x6 : Int32) (x7 : Int32) (σ : aSt) (o : Int32 × aSt), rec20 x0 x2 x3 x4 x5 x6 x7 σ = some o → AW true m_X8_heaviest 20 [(0, va_rf (some (x0))), (2, Value.int (x2)), (3, Value.int (x3)), (4, Value.int (x4)), (5, Value.int (x5)), (6, Value.int (x6)), (7, Value.int (x7))] [] σ 0 0 (some (.int o.1)) o.2) (x0 : Nat) (x2 : Int32) (x3 : Int32) (x4 : Int32) (x5 : Int32) (x6 : Int32) (x7 : Int32) (σ : aSt) (o : Int32 × aSt) (h : f_X8_heaviest_66 rec8 rec20 x0 x2 x3 x4 x5 x6 x7 σ = some o) : AW true m_X8_heaviest 66 [(0, va_rf (some (x0))), (2, Value.int (x2)), (3, Value.int (x3)), (4, Value.int (x4)), (5, Value.int (x5)), (6, Value.int (x6)), (7, Value.int (x7))] [] σ 0 0 (some (.int o.1)) o.2 := by
  unfold f_X8_heaviest_66 at h
  refine w_iinc (q := 6) (v := x7 + 1) dX8_heaviest_66 rfl rfl (by decide) rfl ?_
  refine w_goto 20 dX8_heaviest_69 (by decide) ?_
  refine w_sub [1, 2, 3, 4, 5, 6, 0] rfl ?_
  exact hrec20 _ _ _ _ _ _ _ _ _ h
set_option maxRecDepth 100000 in
set_option maxHeartbeats 4000000 in
theorem l_X8_heaviest_62 (rec8 : Nat → Int32 → Int32 → Int32 → Int32 → aSt → Option (Int32 × aSt)) (hrec8 : ∀ (x0 : Nat) (x2 : Int32) (x3 : Int32) (x4 : Int32) (x5 : Int32) (σ : aSt) (o : Int32 × aSt), rec8 x0 x2 x3 x4 x5 σ = some o → AW true m_X8_heaviest 8 [(0, va_rf (some (x0))), (2, Value.int (x2)), (3, Value.int (x3)), (4, Value.int (x4)), (5, Value.int (x5))] [] σ 0 0 (some (.int o.1)) o.2) (rec20 : Nat → Int32 → Int32 → Int32 → Int32 → Int32 → Int32 → aSt → Option (Int32 × aSt)) (hrec20 : ∀ (x0 : Nat) (x2 : Int32) (x3 : Int32) (x4 : Int32) (x5 : Int32) (x6 : Int32) (x7 : Int32) (σ : aSt) (o : Int32 × aSt), rec20 x0 x2 x3 x4 x5 x6 x7 σ = some o → AW true m_X8_heaviest 20 [(0, va_rf (some (x0))), (2, Value.int (x2)), (3, Value.int (x3)), (4, Value.int (x4)), (5, Value.int (x5)), (6, Value.int (x6)), (7, Value.int (x7))] [] σ 0 0 (some (.int o.1)) o.2) (x0 : Nat) (x2 : Int32) (x3 : Int32) (x4 : Int32) (x5 : Int32) (x7 : Int32) (σ : aSt) (o : Int32 × aSt) (h : f_X8_heaviest_62 rec8 rec20 x0 x2 x3 x4 x5 x7 σ = some o) : AW true m_X8_heaviest 62 [(0, va_rf (some (x0))), (2, Value.int (x2)), (3, Value.int (x3)), (4, Value.int (x4)), (5, Value.int (x5)), (7, Value.int (x7))] [] σ 0 0 (some (.int o.1)) o.2 := by
  unfold f_X8_heaviest_62 at h
  refine w_iload 5 dX8_heaviest_62 rfl ?_
  refine w_istore dX8_heaviest_64 (by decide) rfl ?_
  refine w_sub [1, 2, 3, 4, 5, 0, 6] rfl ?_
  exact l_X8_heaviest_66 rec8 hrec8 rec20 hrec20 _ _ _ _ _ _ _ _ _ h
set_option maxRecDepth 100000 in
set_option maxHeartbeats 4000000 in
theorem l_X8_heaviest_105  (x3 : Int32) (σ : aSt) (o : Int32 × aSt) (h : f_X8_heaviest_105  x3 σ = some o) : AW true m_X8_heaviest 105 [(3, Value.int (x3))] [] σ 0 0 (some (.int o.1)) o.2 := by
  unfold f_X8_heaviest_105 at h
  refine w_iload_n 0 dX8_heaviest_105 rfl rfl ?_
  obtain rfl := Option.some.inj h
  exact w_ireturn dX8_heaviest_106 rfl (Nat.le_of_ble_eq_true rfl) (Nat.le_of_ble_eq_true rfl)
set_option maxRecDepth 100000 in
set_option maxHeartbeats 4000000 in
theorem l_X8_heaviest_20_b (rec8 : Nat → Int32 → Int32 → Int32 → Int32 → aSt → Option (Int32 × aSt)) (hrec8 : ∀ (x0 : Nat) (x2 : Int32) (x3 : Int32) (x4 : Int32) (x5 : Int32) (σ : aSt) (o : Int32 × aSt), rec8 x0 x2 x3 x4 x5 σ = some o → AW true m_X8_heaviest 8 [(0, va_rf (some (x0))), (2, Value.int (x2)), (3, Value.int (x3)), (4, Value.int (x4)), (5, Value.int (x5))] [] σ 0 0 (some (.int o.1)) o.2) (rec20 : Nat → Int32 → Int32 → Int32 → Int32 → Int32 → Int32 → aSt → Option (Int32 × aSt)) (hrec20 : ∀ (x0 : Nat) (x2 : Int32) (x3 : Int32) (x4 : Int32) (x5 : Int32) (x6 : Int32) (x7 : Int32) (σ : aSt) (o : Int32 × aSt), rec20 x0 x2 x3 x4 x5 x6 x7 σ = some o → AW true m_X8_heaviest 20 [(0, va_rf (some (x0))), (2, Value.int (x2)), (3, Value.int (x3)), (4, Value.int (x4)), (5, Value.int (x5)), (6, Value.int (x6)), (7, Value.int (x7))] [] σ 0 0 (some (.int o.1)) o.2) (x0 : Nat) (x2 : Int32) (x3 : Int32) (x4 : Int32) (x5 : Int32) (x6 : Int32) (x7 : Int32) (σ : aSt) (o : Int32 × aSt) (h : f_X8_heaviest_20_b rec8 rec20 x0 x2 x3 x4 x5 x6 x7 σ = some o) : AW true m_X8_heaviest 20 [(0, va_rf (some (x0))), (2, Value.int (x2)), (3, Value.int (x3)), (4, Value.int (x4)), (5, Value.int (x5)), (6, Value.int (x6)), (7, Value.int (x7))] [] σ 0 0 (some (.int o.1)) o.2 := by
  unfold f_X8_heaviest_20_b at h
  refine w_iload 6 dX8_heaviest_20 rfl ?_
  refine w_aload_n 0 ((some (x0))) dX8_heaviest_22 rfl rfl ?_
  replace h := e_grd h; obtain ⟨g1, h⟩ := h
  refine w_get dX8_heaviest_23 fl_RX8_15 ⟨g1.1, Or.inl g1.2⟩ (aFv_i rfl) ?_
  refine w_icmp_ge 72 dX8_heaviest_26 (by decide) (fun c2 => ?_) (fun c2 => ?_)
  · replace h := e_t c2 h
    refine w_iload 5 dX8_heaviest_72 rfl ?_
    refine w_if_ge 80 dX8_heaviest_74 (by decide) (fun c3 => ?_) (fun c3 => ?_)
    · replace h := e_t c3 h
      refine w_iload_n 2 dX8_heaviest_80 rfl rfl ?_
      refine w_aload_n 0 ((some (x0))) dX8_heaviest_81 rfl rfl ?_
      refine w_get (v := va_rf (some ((x0 + 2)))) dX8_heaviest_82 fl_RX8_19 ⟨g1.1, Or.inl g1.2⟩ (aFv_k rfl) ?_
      refine w_iload 5 dX8_heaviest_85 rfl ?_
      replace h := e_grd h; obtain ⟨g4, h⟩ := h
      replace h := e_grd h; obtain ⟨b5, h⟩ := h
      refine w_iaload dX8_heaviest_87 ⟨g4.1, Or.inl g4.2⟩ b5 ?_
      refine w_iadd dX8_heaviest_88 ?_
      refine w_istore_n dX8_heaviest_89 rfl (by decide) rfl ?_
      refine w_iload 3 dX8_heaviest_90 rfl ?_
      refine w_iconst (v := 1) dX8_heaviest_92 (by decide) ?_
      refine w_iload 5 dX8_heaviest_93 rfl ?_
      refine w_ishl dX8_heaviest_95 ?_
      refine w_ixor dX8_heaviest_96 ?_
      refine w_istore dX8_heaviest_97 (by decide) rfl ?_
      refine w_iinc (q := 4) (v := x5 + 1) dX8_heaviest_99 rfl rfl (by decide) rfl ?_
      refine w_goto 8 dX8_heaviest_102 (by decide) ?_
      refine w_sub [3, 4, 2, 1, 0] rfl ?_
      exact hrec8 _ _ _ _ _ _ _ h
    · replace h := e_f c3 h
      refine w_goto 105 dX8_heaviest_77 (by decide) ?_
      refine w_sub [2] rfl ?_
      exact l_X8_heaviest_105 _ _ _ h
  · replace h := e_f c2 h
    refine w_iload 3 dX8_heaviest_29 rfl ?_
    refine w_iload 6 dX8_heaviest_31 rfl ?_
    refine w_ishr dX8_heaviest_33 ?_
    refine w_iconst (v := 1) dX8_heaviest_34 (by decide) ?_
    refine w_iand dX8_heaviest_35 ?_
    refine w_iconst (v := 1) dX8_heaviest_36 (by decide) ?_
    refine w_icmp_ne 66 dX8_heaviest_37 (by decide) (fun c6 => ?_) (fun c6 => ?_)
    · replace h := e_f c6 h
      exact l_X8_heaviest_66 rec8 hrec8 rec20 hrec20 _ _ _ _ _ _ _ _ _ h
    · replace h := e_t c6 h
      refine w_iload 5 dX8_heaviest_40 rfl ?_
      refine w_if_lt 62 dX8_heaviest_42 (by decide) (fun c7 => ?_) (fun c7 => ?_)
      · replace h := e_t c7 h
        refine w_sub [0, 1, 2, 3, 4, 6] rfl ?_
        exact l_X8_heaviest_62 rec8 hrec8 rec20 hrec20 _ _ _ _ _ _ _ _ h
      · replace h := e_f c7 h
        refine w_aload_n 0 ((some (x0))) dX8_heaviest_45 rfl rfl ?_
        refine w_get (v := va_rf (some ((x0 + 2)))) dX8_heaviest_46 fl_RX8_19 ⟨g1.1, Or.inl g1.2⟩ (aFv_k rfl) ?_
        refine w_iload 6 dX8_heaviest_49 rfl ?_
        replace h := e_grd h; obtain ⟨g8, h⟩ := h
        replace h := e_grd h; obtain ⟨b9, h⟩ := h
        refine w_iaload dX8_heaviest_51 ⟨g8.1, Or.inl g8.2⟩ b9 ?_
        refine w_aload_n 0 ((some (x0))) dX8_heaviest_52 rfl rfl ?_
        refine w_get (v := va_rf (some ((x0 + 2)))) dX8_heaviest_53 fl_RX8_19 ⟨g1.1, Or.inl g1.2⟩ (aFv_k rfl) ?_
        refine w_iload 5 dX8_heaviest_56 rfl ?_
        replace h := e_grd h; obtain ⟨b10, h⟩ := h
        refine w_iaload dX8_heaviest_58 ⟨g8.1, Or.inl g8.2⟩ b10 ?_
        refine w_icmp_le 66 dX8_heaviest_59 (by decide) (fun c11 => ?_) (fun c11 => ?_)
        · replace h := e_t c11 h
          exact l_X8_heaviest_66 rec8 hrec8 rec20 hrec20 _ _ _ _ _ _ _ _ _ h
        · replace h := e_f c11 h
          refine w_sub [0, 1, 2, 3, 4, 6] rfl ?_
          exact l_X8_heaviest_62 rec8 hrec8 rec20 hrec20 _ _ _ _ _ _ _ _ h
theorem l_X8_heaviest_20 (rec8 : Nat → Int32 → Int32 → Int32 → Int32 → aSt → Option (Int32 × aSt)) (hrec8 : ∀ (x0 : Nat) (x2 : Int32) (x3 : Int32) (x4 : Int32) (x5 : Int32) (σ : aSt) (o : Int32 × aSt), rec8 x0 x2 x3 x4 x5 σ = some o → AW true m_X8_heaviest 8 [(0, va_rf (some (x0))), (2, Value.int (x2)), (3, Value.int (x3)), (4, Value.int (x4)), (5, Value.int (x5))] [] σ 0 0 (some (.int o.1)) o.2) : ∀ (n : Nat) (x0 : Nat) (x2 : Int32) (x3 : Int32) (x4 : Int32) (x5 : Int32) (x6 : Int32) (x7 : Int32) (σ : aSt) (o : Int32 × aSt), f_X8_heaviest_20 rec8 n x0 x2 x3 x4 x5 x6 x7 σ = some o → AW true m_X8_heaviest 20 [(0, va_rf (some (x0))), (2, Value.int (x2)), (3, Value.int (x3)), (4, Value.int (x4)), (5, Value.int (x5)), (6, Value.int (x6)), (7, Value.int (x7))] [] σ 0 0 (some (.int o.1)) o.2
  | 0 => fun x0 x2 x3 x4 x5 x6 x7 σ o h => by cases h
  | n + 1 => fun x0 x2 x3 x4 x5 x6 x7 σ o h => l_X8_heaviest_20_b rec8 hrec8 (f_X8_heaviest_20 rec8 n) (l_X8_heaviest_20 rec8 hrec8 n) x0 x2 x3 x4 x5 x6 x7 σ o h
set_option maxRecDepth 100000 in
set_option maxHeartbeats 4000000 in
theorem l_X8_heaviest_8_b (rec8 : Nat → Int32 → Int32 → Int32 → Int32 → aSt → Option (Int32 × aSt)) (hrec8 : ∀ (x0 : Nat) (x2 : Int32) (x3 : Int32) (x4 : Int32) (x5 : Int32) (σ : aSt) (o : Int32 × aSt), rec8 x0 x2 x3 x4 x5 σ = some o → AW true m_X8_heaviest 8 [(0, va_rf (some (x0))), (2, Value.int (x2)), (3, Value.int (x3)), (4, Value.int (x4)), (5, Value.int (x5))] [] σ 0 0 (some (.int o.1)) o.2) (x0 : Nat) (x2 : Int32) (x3 : Int32) (x4 : Int32) (x5 : Int32) (σ : aSt) (o : Int32 × aSt) (h : f_X8_heaviest_8_b rec8 x0 x2 x3 x4 x5 σ = some o) : AW true m_X8_heaviest 8 [(0, va_rf (some (x0))), (2, Value.int (x2)), (3, Value.int (x3)), (4, Value.int (x4)), (5, Value.int (x5))] [] σ 0 0 (some (.int o.1)) o.2 := by
  unfold f_X8_heaviest_8_b at h
  refine w_iload 4 dX8_heaviest_8 rfl ?_
  refine w_iload_n 1 dX8_heaviest_10 rfl rfl ?_
  refine w_icmp_ge 105 dX8_heaviest_11 (by decide) (fun c12 => ?_) (fun c12 => ?_)
  · replace h := e_t c12 h
    refine w_sub [2] rfl ?_
    exact l_X8_heaviest_105 _ _ _ h
  · replace h := e_f c12 h
    refine w_iconst (v := (-1)) dX8_heaviest_14 (by decide) ?_
    refine w_istore dX8_heaviest_15 (by decide) rfl ?_
    refine w_iconst (v := 0) dX8_heaviest_17 (by decide) ?_
    refine w_istore dX8_heaviest_18 (by decide) rfl ?_
    refine w_sub [2, 3, 4, 5, 6, 1, 0] rfl ?_
    exact l_X8_heaviest_20 rec8 hrec8 aN _ _ _ _ _ _ _ _ _ h
theorem l_X8_heaviest_8  : ∀ (n : Nat) (x0 : Nat) (x2 : Int32) (x3 : Int32) (x4 : Int32) (x5 : Int32) (σ : aSt) (o : Int32 × aSt), f_X8_heaviest_8  n x0 x2 x3 x4 x5 σ = some o → AW true m_X8_heaviest 8 [(0, va_rf (some (x0))), (2, Value.int (x2)), (3, Value.int (x3)), (4, Value.int (x4)), (5, Value.int (x5))] [] σ 0 0 (some (.int o.1)) o.2
  | 0 => fun x0 x2 x3 x4 x5 σ o h => by cases h
  | n + 1 => fun x0 x2 x3 x4 x5 σ o h => l_X8_heaviest_8_b (f_X8_heaviest_8  n) (l_X8_heaviest_8  n) x0 x2 x3 x4 x5 σ o h
set_option maxRecDepth 100000 in
set_option maxHeartbeats 4000000 in
theorem c_X8_heaviest (p0 : Nat) (p1 : Int32) (p2 : Int32) (σ : aSt) (o : Int32 × aSt) (h : f_X8_heaviest p0 p1 p2 σ = some o) : AM true m_X8_heaviest [va_rf (some (p0)), .int (p1), .int (p2)] σ (some (.int o.1)) o.2 := by
  refine AM_of2 (lv := [(0, va_rf (some (p0))), (1, Value.int (p1)), (2, Value.int (p2))]) (by decide +kernel) rfl (Nat.le_of_ble_eq_true rfl) ?_
  unfold f_X8_heaviest at h
  refine w_iconst (v := 0) dX8_heaviest_0 (by decide) ?_
  refine w_istore_n dX8_heaviest_1 rfl (by decide) rfl ?_
  refine w_iload_n 2 dX8_heaviest_2 rfl rfl ?_
  refine w_istore dX8_heaviest_3 (by decide) rfl ?_
  refine w_iconst (v := 0) dX8_heaviest_5 (by decide) ?_
  refine w_istore dX8_heaviest_6 (by decide) rfl ?_
  refine w_sub [3, 5, 2, 1, 0] rfl ?_
  exact l_X8_heaviest_8 aN _ _ _ _ _ _ _ h
theorem dX8_fewestThatReach_0 : decode cX8_fewestThatReach 0 = .ok (.iconst 0, 1) := by decide +kernel
theorem dX8_fewestThatReach_1 : decode cX8_fewestThatReach 1 = .ok (.istore_n 3, 1) := by decide +kernel
theorem dX8_fewestThatReach_2 : decode cX8_fewestThatReach 2 = .ok (.iload_n 3, 1) := by decide +kernel
theorem dX8_fewestThatReach_3 : decode cX8_fewestThatReach 3 = .ok (.aload_n 0, 1) := by decide +kernel
theorem dX8_fewestThatReach_4 : decode cX8_fewestThatReach 4 = .ok (.getfield 15, 3) := by decide +kernel
theorem dX8_fewestThatReach_7 : decode cX8_fewestThatReach 7 = .ok (.if_icmp .ge 19, 3) := by decide +kernel
theorem dX8_fewestThatReach_10 : decode cX8_fewestThatReach 10 = .ok (.aload_n 0, 1) := by decide +kernel
theorem dX8_fewestThatReach_11 : decode cX8_fewestThatReach 11 = .ok (.iload_n 1, 1) := by decide +kernel
theorem dX8_fewestThatReach_12 : decode cX8_fewestThatReach 12 = .ok (.iload_n 3, 1) := by decide +kernel
theorem dX8_fewestThatReach_13 : decode cX8_fewestThatReach 13 = .ok (.invokevirtual 49, 3) := by decide +kernel
theorem dX8_fewestThatReach_16 : decode cX8_fewestThatReach 16 = .ok (.iload_n 2, 1) := by decide +kernel
theorem dX8_fewestThatReach_17 : decode cX8_fewestThatReach 17 = .ok (.if_icmp .ge 9, 3) := by decide +kernel
theorem dX8_fewestThatReach_20 : decode cX8_fewestThatReach 20 = .ok (.iinc 3 1, 3) := by decide +kernel
theorem dX8_fewestThatReach_23 : decode cX8_fewestThatReach 23 = .ok (.goto (-21), 3) := by decide +kernel
theorem dX8_fewestThatReach_26 : decode cX8_fewestThatReach 26 = .ok (.iload_n 3, 1) := by decide +kernel
theorem dX8_fewestThatReach_27 : decode cX8_fewestThatReach 27 = .ok (.ireturn, 1) := by decide +kernel
theorem kd_X8_fewestThatReach : aKd m_X8_fewestThatReach 2 := ⟨wd_35_19, wd_2_21, ⟨by decide +kernel, by decide +kernel, by decide +kernel⟩⟩
set_option maxRecDepth 100000 in
set_option maxHeartbeats 4000000 in
theorem l_X8_fewestThatReach_26  (x3 : Int32) (σ : aSt) (o : Int32 × aSt) (h : f_X8_fewestThatReach_26  x3 σ = some o) : AW true m_X8_fewestThatReach 26 [(3, Value.int (x3))] [] σ 0 0 (some (.int o.1)) o.2 := by
  unfold f_X8_fewestThatReach_26 at h
  refine w_iload_n 0 dX8_fewestThatReach_26 rfl rfl ?_
  obtain rfl := Option.some.inj h
  exact w_ireturn dX8_fewestThatReach_27 rfl (Nat.le_of_ble_eq_true rfl) (Nat.le_of_ble_eq_true rfl)
set_option maxRecDepth 100000 in
set_option maxHeartbeats 4000000 in
theorem l_X8_fewestThatReach_2_b (rec2 : Nat → Int32 → Int32 → Int32 → aSt → Option (Int32 × aSt)) (hrec2 : ∀ (x0 : Nat) (x1 : Int32) (x2 : Int32) (x3 : Int32) (σ : aSt) (o : Int32 × aSt), rec2 x0 x1 x2 x3 σ = some o → AW true m_X8_fewestThatReach 2 [(0, va_rf (some (x0))), (1, Value.int (x1)), (2, Value.int (x2)), (3, Value.int (x3))] [] σ 0 0 (some (.int o.1)) o.2) (x0 : Nat) (x1 : Int32) (x2 : Int32) (x3 : Int32) (σ : aSt) (o : Int32 × aSt) (h : f_X8_fewestThatReach_2_b rec2 x0 x1 x2 x3 σ = some o) : AW true m_X8_fewestThatReach 2 [(0, va_rf (some (x0))), (1, Value.int (x1)), (2, Value.int (x2)), (3, Value.int (x3))] [] σ 0 0 (some (.int o.1)) o.2 := by
  unfold f_X8_fewestThatReach_2_b at h
  refine w_iload_n 3 dX8_fewestThatReach_2 rfl rfl ?_
  refine w_aload_n 0 ((some (x0))) dX8_fewestThatReach_3 rfl rfl ?_
  replace h := e_grd h; obtain ⟨g1, h⟩ := h
  refine w_get dX8_fewestThatReach_4 fl_RX8_15 ⟨g1.1, Or.inl g1.2⟩ (aFv_i rfl) ?_
  refine w_icmp_ge 26 dX8_fewestThatReach_7 (by decide) (fun c2 => ?_) (fun c2 => ?_)
  · replace h := e_t c2 h
    refine w_sub [3] rfl ?_
    exact l_X8_fewestThatReach_26 _ _ _ h
  · replace h := e_f c2 h
    refine w_aload_n 0 ((some (x0))) dX8_fewestThatReach_10 rfl rfl ?_
    refine w_iload_n 1 dX8_fewestThatReach_11 rfl rfl ?_
    refine w_iload_n 3 dX8_fewestThatReach_12 rfl rfl ?_
    replace h := e_grd h; obtain ⟨g5, h⟩ := h
    replace h := e_bind h; obtain ⟨q3, e4, h⟩ := h
    refine w_callV1 (M2 := m_X8_heaviest) (av := [.int (x1), .int (x3)]) (ci := 8) (c_X8_heaviest _ _ _ _ _ e4) dX8_fewestThatReach_13 kd_X8_heaviest wd_35_20 wd_35_21 wd_35_22 rfl rfl ⟨g5.1, Or.inl g5.2⟩ rfl ⟨Nat.le_of_ble_eq_true rfl, Nat.le_of_ble_eq_true rfl, Nat.le_of_ble_eq_true rfl, Nat.le_of_ble_eq_true rfl⟩ (Nat.le_of_ble_eq_true rfl) ?_
    refine w_iload_n 2 dX8_fewestThatReach_16 rfl rfl ?_
    refine w_icmp_ge 26 dX8_fewestThatReach_17 (by decide) (fun c6 => ?_) (fun c6 => ?_)
    · replace h := e_t c6 h
      refine w_sub [3] rfl ?_
      exact l_X8_fewestThatReach_26 _ _ _ h
    · replace h := e_f c6 h
      refine w_iinc (q := 3) (v := x3 + 1) dX8_fewestThatReach_20 rfl rfl (by decide) rfl ?_
      refine w_goto 2 dX8_fewestThatReach_23 (by decide) ?_
      refine w_sub [1, 2, 3, 0] rfl ?_
      exact hrec2 _ _ _ _ _ _ h
theorem l_X8_fewestThatReach_2  : ∀ (n : Nat) (x0 : Nat) (x1 : Int32) (x2 : Int32) (x3 : Int32) (σ : aSt) (o : Int32 × aSt), f_X8_fewestThatReach_2  n x0 x1 x2 x3 σ = some o → AW true m_X8_fewestThatReach 2 [(0, va_rf (some (x0))), (1, Value.int (x1)), (2, Value.int (x2)), (3, Value.int (x3))] [] σ 0 0 (some (.int o.1)) o.2
  | 0 => fun x0 x1 x2 x3 σ o h => by cases h
  | n + 1 => fun x0 x1 x2 x3 σ o h => l_X8_fewestThatReach_2_b (f_X8_fewestThatReach_2  n) (l_X8_fewestThatReach_2  n) x0 x1 x2 x3 σ o h
set_option maxRecDepth 100000 in
set_option maxHeartbeats 4000000 in
theorem c_X8_fewestThatReach (p0 : Nat) (p1 : Int32) (p2 : Int32) (σ : aSt) (o : Int32 × aSt) (h : f_X8_fewestThatReach p0 p1 p2 σ = some o) : AM true m_X8_fewestThatReach [va_rf (some (p0)), .int (p1), .int (p2)] σ (some (.int o.1)) o.2 := by
  refine AM_of2 (lv := [(0, va_rf (some (p0))), (1, Value.int (p1)), (2, Value.int (p2))]) (by decide +kernel) rfl (Nat.le_of_ble_eq_true rfl) ?_
  unfold f_X8_fewestThatReach at h
  refine w_iconst (v := 0) dX8_fewestThatReach_0 (by decide) ?_
  refine w_istore_n dX8_fewestThatReach_1 rfl (by decide) rfl ?_
  refine w_sub [1, 2, 3, 0] rfl ?_
  exact l_X8_fewestThatReach_2 aN _ _ _ _ _ _ h
theorem dX8_fewest_0 : decode cX8_fewest 0 = .ok (.aload_n 0, 1) := by decide +kernel
theorem dX8_fewest_1 : decode cX8_fewest 1 = .ok (.iload_n 1, 1) := by decide +kernel
theorem dX8_fewest_2 : decode cX8_fewest 2 = .ok (.iload_n 2, 1) := by decide +kernel
theorem dX8_fewest_3 : decode cX8_fewest 3 = .ok (.invokevirtual 45, 3) := by decide +kernel
theorem dX8_fewest_6 : decode cX8_fewest 6 = .ok (.istore_n 3, 1) := by decide +kernel
theorem dX8_fewest_7 : decode cX8_fewest 7 = .ok (.iload_n 1, 1) := by decide +kernel
theorem dX8_fewest_8 : decode cX8_fewest 8 = .ok (.istore 4, 2) := by decide +kernel
theorem dX8_fewest_10 : decode cX8_fewest 10 = .ok (.iload_n 2, 1) := by decide +kernel
theorem dX8_fewest_11 : decode cX8_fewest 11 = .ok (.istore 5, 2) := by decide +kernel
theorem dX8_fewest_13 : decode cX8_fewest 13 = .ok (.iconst 0, 1) := by decide +kernel
theorem dX8_fewest_14 : decode cX8_fewest 14 = .ok (.istore 6, 2) := by decide +kernel
theorem dX8_fewest_16 : decode cX8_fewest 16 = .ok (.aload_n 0, 1) := by decide +kernel
theorem dX8_fewest_17 : decode cX8_fewest 17 = .ok (.getfield 15, 3) := by decide +kernel
theorem dX8_fewest_20 : decode cX8_fewest 20 = .ok (.iconst 1, 1) := by decide +kernel
theorem dX8_fewest_21 : decode cX8_fewest 21 = .ok (.isub, 1) := by decide +kernel
theorem dX8_fewest_22 : decode cX8_fewest 22 = .ok (.istore 7, 2) := by decide +kernel
theorem dX8_fewest_24 : decode cX8_fewest 24 = .ok (.iload 7, 2) := by decide +kernel
theorem dX8_fewest_26 : decode cX8_fewest 26 = .ok (.ifCond .lt 71, 3) := by decide +kernel
theorem dX8_fewest_29 : decode cX8_fewest 29 = .ok (.iload_n 3, 1) := by decide +kernel
theorem dX8_fewest_30 : decode cX8_fewest 30 = .ok (.ifCond .le 67, 3) := by decide +kernel
theorem dX8_fewest_33 : decode cX8_fewest 33 = .ok (.iload 4, 2) := by decide +kernel
theorem dX8_fewest_35 : decode cX8_fewest 35 = .ok (.iload 7, 2) := by decide +kernel
theorem dX8_fewest_37 : decode cX8_fewest 37 = .ok (.ishr, 1) := by decide +kernel
theorem dX8_fewest_38 : decode cX8_fewest 38 = .ok (.iconst 1, 1) := by decide +kernel
theorem dX8_fewest_39 : decode cX8_fewest 39 = .ok (.iand, 1) := by decide +kernel
theorem dX8_fewest_40 : decode cX8_fewest 40 = .ok (.ifCond .ne 6, 3) := by decide +kernel
theorem dX8_fewest_43 : decode cX8_fewest 43 = .ok (.goto 48, 3) := by decide +kernel
theorem dX8_fewest_46 : decode cX8_fewest 46 = .ok (.iload 4, 2) := by decide +kernel
theorem dX8_fewest_48 : decode cX8_fewest 48 = .ok (.iconst 1, 1) := by decide +kernel
theorem dX8_fewest_49 : decode cX8_fewest 49 = .ok (.iload 7, 2) := by decide +kernel
theorem dX8_fewest_51 : decode cX8_fewest 51 = .ok (.ishl, 1) := by decide +kernel
theorem dX8_fewest_52 : decode cX8_fewest 52 = .ok (.ixor, 1) := by decide +kernel
theorem dX8_fewest_53 : decode cX8_fewest 53 = .ok (.istore 4, 2) := by decide +kernel
theorem dX8_fewest_55 : decode cX8_fewest 55 = .ok (.aload_n 0, 1) := by decide +kernel
theorem dX8_fewest_56 : decode cX8_fewest 56 = .ok (.iload 4, 2) := by decide +kernel
theorem dX8_fewest_58 : decode cX8_fewest 58 = .ok (.iload_n 3, 1) := by decide +kernel
theorem dX8_fewest_59 : decode cX8_fewest 59 = .ok (.invokevirtual 49, 3) := by decide +kernel
theorem dX8_fewest_62 : decode cX8_fewest 62 = .ok (.iload 5, 2) := by decide +kernel
theorem dX8_fewest_64 : decode cX8_fewest 64 = .ok (.if_icmp .ge 27, 3) := by decide +kernel
theorem dX8_fewest_67 : decode cX8_fewest 67 = .ok (.iload 6, 2) := by decide +kernel
theorem dX8_fewest_69 : decode cX8_fewest 69 = .ok (.iconst 1, 1) := by decide +kernel
theorem dX8_fewest_70 : decode cX8_fewest 70 = .ok (.iload 7, 2) := by decide +kernel
theorem dX8_fewest_72 : decode cX8_fewest 72 = .ok (.ishl, 1) := by decide +kernel
theorem dX8_fewest_73 : decode cX8_fewest 73 = .ok (.ior, 1) := by decide +kernel
theorem dX8_fewest_74 : decode cX8_fewest 74 = .ok (.istore 6, 2) := by decide +kernel
theorem dX8_fewest_76 : decode cX8_fewest 76 = .ok (.iload 5, 2) := by decide +kernel
theorem dX8_fewest_78 : decode cX8_fewest 78 = .ok (.aload_n 0, 1) := by decide +kernel
theorem dX8_fewest_79 : decode cX8_fewest 79 = .ok (.getfield 19, 3) := by decide +kernel
theorem dX8_fewest_82 : decode cX8_fewest 82 = .ok (.iload 7, 2) := by decide +kernel
theorem dX8_fewest_84 : decode cX8_fewest 84 = .ok (.iaload, 1) := by decide +kernel
theorem dX8_fewest_85 : decode cX8_fewest 85 = .ok (.isub, 1) := by decide +kernel
theorem dX8_fewest_86 : decode cX8_fewest 86 = .ok (.istore 5, 2) := by decide +kernel
theorem dX8_fewest_88 : decode cX8_fewest 88 = .ok (.iinc 3 (-1), 3) := by decide +kernel
theorem dX8_fewest_91 : decode cX8_fewest 91 = .ok (.iinc 7 (-1), 3) := by decide +kernel
theorem dX8_fewest_94 : decode cX8_fewest 94 = .ok (.goto (-70), 3) := by decide +kernel
theorem dX8_fewest_97 : decode cX8_fewest 97 = .ok (.iload 6, 2) := by decide +kernel
theorem dX8_fewest_99 : decode cX8_fewest 99 = .ok (.ireturn, 1) := by decide +kernel
theorem kd_X8_fewest : aKd m_X8_fewest 2 := ⟨wd_35_15, wd_2_21, ⟨by decide +kernel, by decide +kernel, by decide +kernel⟩⟩
set_option maxRecDepth 100000 in
set_option maxHeartbeats 4000000 in
theorem l_X8_fewest_91 (rec24 : Nat → Int32 → Int32 → Int32 → Int32 → Int32 → aSt → Option (Int32 × aSt)) (hrec24 : ∀ (x0 : Nat) (x3 : Int32) (x4 : Int32) (x5 : Int32) (x6 : Int32) (x7 : Int32) (σ : aSt) (o : Int32 × aSt), rec24 x0 x3 x4 x5 x6 x7 σ = some o → AW true m_X8_fewest 24 [(0, va_rf (some (x0))), (3, Value.int (x3)), (4, Value.int (x4)), (5, Value.int (x5)), (6, Value.int (x6)), (7, Value.int (x7))] [] σ 0 0 (some (.int o.1)) o.2) (x0 : Nat) (x3 : Int32) (x4 : Int32) (x5 : Int32) (x6 : Int32) (x7 : Int32) (σ : aSt) (o : Int32 × aSt) (h : f_X8_fewest_91 rec24 x0 x3 x4 x5 x6 x7 σ = some o) : AW true m_X8_fewest 91 [(0, va_rf (some (x0))), (3, Value.int (x3)), (4, Value.int (x4)), (5, Value.int (x5)), (6, Value.int (x6)), (7, Value.int (x7))] [] σ 0 0 (some (.int o.1)) o.2 := by
  unfold f_X8_fewest_91 at h
  refine w_iinc (q := 5) (v := x7 + (-1)) dX8_fewest_91 rfl rfl (by decide) rfl ?_
  refine w_goto 24 dX8_fewest_94 (by decide) ?_
  refine w_sub [1, 2, 3, 4, 5, 0] rfl ?_
  exact hrec24 _ _ _ _ _ _ _ _ h
set_option maxRecDepth 100000 in
set_option maxHeartbeats 4000000 in
theorem l_X8_fewest_97  (x6 : Int32) (σ : aSt) (o : Int32 × aSt) (h : f_X8_fewest_97  x6 σ = some o) : AW true m_X8_fewest 97 [(6, Value.int (x6))] [] σ 0 0 (some (.int o.1)) o.2 := by
  unfold f_X8_fewest_97 at h
  refine w_iload 0 dX8_fewest_97 rfl ?_
  obtain rfl := Option.some.inj h
  exact w_ireturn dX8_fewest_99 rfl (Nat.le_of_ble_eq_true rfl) (Nat.le_of_ble_eq_true rfl)
set_option maxRecDepth 100000 in
set_option maxHeartbeats 4000000 in
theorem l_X8_fewest_24_b (rec24 : Nat → Int32 → Int32 → Int32 → Int32 → Int32 → aSt → Option (Int32 × aSt)) (hrec24 : ∀ (x0 : Nat) (x3 : Int32) (x4 : Int32) (x5 : Int32) (x6 : Int32) (x7 : Int32) (σ : aSt) (o : Int32 × aSt), rec24 x0 x3 x4 x5 x6 x7 σ = some o → AW true m_X8_fewest 24 [(0, va_rf (some (x0))), (3, Value.int (x3)), (4, Value.int (x4)), (5, Value.int (x5)), (6, Value.int (x6)), (7, Value.int (x7))] [] σ 0 0 (some (.int o.1)) o.2) (x0 : Nat) (x3 : Int32) (x4 : Int32) (x5 : Int32) (x6 : Int32) (x7 : Int32) (σ : aSt) (o : Int32 × aSt) (h : f_X8_fewest_24_b rec24 x0 x3 x4 x5 x6 x7 σ = some o) : AW true m_X8_fewest 24 [(0, va_rf (some (x0))), (3, Value.int (x3)), (4, Value.int (x4)), (5, Value.int (x5)), (6, Value.int (x6)), (7, Value.int (x7))] [] σ 0 0 (some (.int o.1)) o.2 := by
  unfold f_X8_fewest_24_b at h
  refine w_iload 5 dX8_fewest_24 rfl ?_
  refine w_if_lt 97 dX8_fewest_26 (by decide) (fun c5 => ?_) (fun c5 => ?_)
  · replace h := e_t c5 h
    refine w_sub [4] rfl ?_
    exact l_X8_fewest_97 _ _ _ h
  · replace h := e_f c5 h
    refine w_iload_n 1 dX8_fewest_29 rfl rfl ?_
    refine w_if_le 97 dX8_fewest_30 (by decide) (fun c6 => ?_) (fun c6 => ?_)
    · replace h := e_t c6 h
      refine w_sub [4] rfl ?_
      exact l_X8_fewest_97 _ _ _ h
    · replace h := e_f c6 h
      refine w_iload 2 dX8_fewest_33 rfl ?_
      refine w_iload 5 dX8_fewest_35 rfl ?_
      refine w_ishr dX8_fewest_37 ?_
      refine w_iconst (v := 1) dX8_fewest_38 (by decide) ?_
      refine w_iand dX8_fewest_39 ?_
      refine w_if_ne 46 dX8_fewest_40 (by decide) (fun c7 => ?_) (fun c7 => ?_)
      · replace h := e_f c7 h
        refine w_iload 2 dX8_fewest_46 rfl ?_
        refine w_iconst (v := 1) dX8_fewest_48 (by decide) ?_
        refine w_iload 5 dX8_fewest_49 rfl ?_
        refine w_ishl dX8_fewest_51 ?_
        refine w_ixor dX8_fewest_52 ?_
        refine w_istore dX8_fewest_53 (by decide) rfl ?_
        refine w_aload_n 1 ((some (x0))) dX8_fewest_55 rfl rfl ?_
        refine w_iload 0 dX8_fewest_56 rfl ?_
        refine w_iload_n 2 dX8_fewest_58 rfl rfl ?_
        replace h := e_grd h; obtain ⟨g10, h⟩ := h
        replace h := e_bind h; obtain ⟨q8, e9, h⟩ := h
        refine w_callV1 (M2 := m_X8_heaviest) (av := [.int (x4 ^^^ ((1 : Int32) <<< (x7 &&& 31))), .int (x3)]) (ci := 8) (c_X8_heaviest _ _ _ _ _ e9) dX8_fewest_59 kd_X8_heaviest wd_35_20 wd_35_21 wd_35_22 rfl rfl ⟨g10.1, Or.inl g10.2⟩ rfl ⟨Nat.le_of_ble_eq_true rfl, Nat.le_of_ble_eq_true rfl, Nat.le_of_ble_eq_true rfl, Nat.le_of_ble_eq_true rfl⟩ (Nat.le_of_ble_eq_true rfl) ?_
        refine w_iload 3 dX8_fewest_62 rfl ?_
        refine w_icmp_ge 91 dX8_fewest_64 (by decide) (fun c11 => ?_) (fun c11 => ?_)
        · replace h := e_t c11 h
          refine w_sub [1, 2, 0, 3, 4, 5] rfl ?_
          exact l_X8_fewest_91 rec24 hrec24 _ _ _ _ _ _ _ _ h
        · replace h := e_f c11 h
          refine w_iload 4 dX8_fewest_67 rfl ?_
          refine w_iconst (v := 1) dX8_fewest_69 (by decide) ?_
          refine w_iload 5 dX8_fewest_70 rfl ?_
          refine w_ishl dX8_fewest_72 ?_
          refine w_ior dX8_fewest_73 ?_
          refine w_istore dX8_fewest_74 (by decide) rfl ?_
          refine w_iload 4 dX8_fewest_76 rfl ?_
          refine w_aload_n 2 ((some (x0))) dX8_fewest_78 rfl rfl ?_
          replace h := e_grd h; obtain ⟨g12, h⟩ := h
          refine w_get (v := va_rf (some ((x0 + 2)))) dX8_fewest_79 fl_RX8_19 ⟨g12.1, Or.inl g12.2⟩ (aFv_k rfl) ?_
          refine w_iload 5 dX8_fewest_82 rfl ?_
          replace h := e_grd h; obtain ⟨g13, h⟩ := h
          replace h := e_grd h; obtain ⟨b14, h⟩ := h
          refine w_iaload dX8_fewest_84 ⟨g13.1, Or.inl g13.2⟩ b14 ?_
          refine w_isub dX8_fewest_85 ?_
          refine w_istore dX8_fewest_86 (by decide) rfl ?_
          refine w_iinc (q := 4) (v := x3 + (-1)) dX8_fewest_88 rfl rfl (by decide) rfl ?_
          refine w_sub [4, 0, 3, 1, 2, 5] rfl ?_
          exact l_X8_fewest_91 rec24 hrec24 _ _ _ _ _ _ _ _ h
      · replace h := e_t c7 h
        refine w_goto 91 dX8_fewest_43 (by decide) ?_
        exact l_X8_fewest_91 rec24 hrec24 _ _ _ _ _ _ _ _ h
theorem l_X8_fewest_24  : ∀ (n : Nat) (x0 : Nat) (x3 : Int32) (x4 : Int32) (x5 : Int32) (x6 : Int32) (x7 : Int32) (σ : aSt) (o : Int32 × aSt), f_X8_fewest_24  n x0 x3 x4 x5 x6 x7 σ = some o → AW true m_X8_fewest 24 [(0, va_rf (some (x0))), (3, Value.int (x3)), (4, Value.int (x4)), (5, Value.int (x5)), (6, Value.int (x6)), (7, Value.int (x7))] [] σ 0 0 (some (.int o.1)) o.2
  | 0 => fun x0 x3 x4 x5 x6 x7 σ o h => by cases h
  | n + 1 => fun x0 x3 x4 x5 x6 x7 σ o h => l_X8_fewest_24_b (f_X8_fewest_24  n) (l_X8_fewest_24  n) x0 x3 x4 x5 x6 x7 σ o h
set_option maxRecDepth 100000 in
set_option maxHeartbeats 4000000 in
theorem c_X8_fewest (p0 : Nat) (p1 : Int32) (p2 : Int32) (σ : aSt) (o : Int32 × aSt) (h : f_X8_fewest p0 p1 p2 σ = some o) : AM true m_X8_fewest [va_rf (some (p0)), .int (p1), .int (p2)] σ (some (.int o.1)) o.2 := by
  refine AM_of2 (lv := [(0, va_rf (some (p0))), (1, Value.int (p1)), (2, Value.int (p2))]) (by decide +kernel) rfl (Nat.le_of_ble_eq_true rfl) ?_
  unfold f_X8_fewest at h
  refine w_aload_n 0 ((some (p0))) dX8_fewest_0 rfl rfl ?_
  refine w_iload_n 1 dX8_fewest_1 rfl rfl ?_
  refine w_iload_n 2 dX8_fewest_2 rfl rfl ?_
  replace h := e_grd h; obtain ⟨g3, h⟩ := h
  replace h := e_bind h; obtain ⟨q1, e2, h⟩ := h
  refine w_callV1 (M2 := m_X8_fewestThatReach) (av := [.int (p1), .int (p2)]) (ci := 8) (c_X8_fewestThatReach _ _ _ _ _ e2) dX8_fewest_3 kd_X8_fewestThatReach wd_35_16 wd_35_17 wd_35_18 rfl rfl ⟨g3.1, Or.inl g3.2⟩ rfl ⟨Nat.le_of_ble_eq_true rfl, Nat.le_of_ble_eq_true rfl, Nat.le_of_ble_eq_true rfl, Nat.le_of_ble_eq_true rfl⟩ (Nat.le_of_ble_eq_true rfl) ?_
  refine w_istore_n dX8_fewest_6 rfl (by decide) rfl ?_
  refine w_iload_n 2 dX8_fewest_7 rfl rfl ?_
  refine w_istore dX8_fewest_8 (by decide) rfl ?_
  refine w_iload_n 4 dX8_fewest_10 rfl rfl ?_
  refine w_istore dX8_fewest_11 (by decide) rfl ?_
  refine w_iconst (v := 0) dX8_fewest_13 (by decide) ?_
  refine w_istore dX8_fewest_14 (by decide) rfl ?_
  refine w_aload_n 4 ((some (p0))) dX8_fewest_16 rfl rfl ?_
  replace h := e_grd h; obtain ⟨g4, h⟩ := h
  refine w_get dX8_fewest_17 fl_RX8_15 ⟨g4.1, Or.inl g4.2⟩ (aFv_i rfl) ?_
  refine w_iconst (v := 1) dX8_fewest_20 (by decide) ?_
  refine w_isub dX8_fewest_21 ?_
  refine w_istore dX8_fewest_22 (by decide) rfl ?_
  refine w_sub [5, 4, 3, 2, 1, 0] rfl ?_
  exact l_X8_fewest_24 aN _ _ _ _ _ _ _ _ h
theorem dX2_whyOf_0 : decode cX2_whyOf 0 = .ok (.aload_n 0, 1) := by decide +kernel
theorem dX2_whyOf_1 : decode cX2_whyOf 1 = .ok (.aload_n 1, 1) := by decide +kernel
theorem dX2_whyOf_2 : decode cX2_whyOf 2 = .ok (.iload_n 2, 1) := by decide +kernel
theorem dX2_whyOf_3 : decode cX2_whyOf 3 = .ok (.invokevirtual 96, 3) := by decide +kernel
theorem dX2_whyOf_6 : decode cX2_whyOf 6 = .ok (.istore_n 3, 1) := by decide +kernel
theorem dX2_whyOf_7 : decode cX2_whyOf 7 = .ok (.iload_n 3, 1) := by decide +kernel
theorem dX2_whyOf_8 : decode cX2_whyOf 8 = .ok (.ifCond .ne 5, 3) := by decide +kernel
theorem dX2_whyOf_11 : decode cX2_whyOf 11 = .ok (.iconst 0, 1) := by decide +kernel
theorem dX2_whyOf_12 : decode cX2_whyOf 12 = .ok (.ireturn, 1) := by decide +kernel
theorem dX2_whyOf_13 : decode cX2_whyOf 13 = .ok (.aload_n 0, 1) := by decide +kernel
theorem dX2_whyOf_14 : decode cX2_whyOf 14 = .ok (.getfield 12, 3) := by decide +kernel
theorem dX2_whyOf_17 : decode cX2_whyOf 17 = .ok (.aload_n 0, 1) := by decide +kernel
theorem dX2_whyOf_18 : decode cX2_whyOf 18 = .ok (.aload_n 1, 1) := by decide +kernel
theorem dX2_whyOf_19 : decode cX2_whyOf 19 = .ok (.iload_n 2, 1) := by decide +kernel
theorem dX2_whyOf_20 : decode cX2_whyOf 20 = .ok (.invokevirtual 99, 3) := by decide +kernel
theorem dX2_whyOf_23 : decode cX2_whyOf 23 = .ok (.aload_n 0, 1) := by decide +kernel
theorem dX2_whyOf_24 : decode cX2_whyOf 24 = .ok (.getfield 12, 3) := by decide +kernel
theorem dX2_whyOf_27 : decode cX2_whyOf 27 = .ok (.getfield 102, 3) := by decide +kernel
theorem dX2_whyOf_30 : decode cX2_whyOf 30 = .ok (.iload_n 3, 1) := by decide +kernel
theorem dX2_whyOf_31 : decode cX2_whyOf 31 = .ok (.iconst 2, 1) := by decide +kernel
theorem dX2_whyOf_32 : decode cX2_whyOf 32 = .ok (.if_icmp .ne 7, 3) := by decide +kernel
theorem dX2_whyOf_35 : decode cX2_whyOf 35 = .ok (.iconst 3, 1) := by decide +kernel
theorem dX2_whyOf_36 : decode cX2_whyOf 36 = .ok (.goto 4, 3) := by decide +kernel
theorem dX2_whyOf_39 : decode cX2_whyOf 39 = .ok (.iconst 2, 1) := by decide +kernel
theorem dX2_whyOf_40 : decode cX2_whyOf 40 = .ok (.iaload, 1) := by decide +kernel
theorem dX2_whyOf_41 : decode cX2_whyOf 41 = .ok (.invokevirtual 105, 3) := by decide +kernel
theorem dX2_whyOf_44 : decode cX2_whyOf 44 = .ok (.ireturn, 1) := by decide +kernel
theorem kd_X2_whyOf : aKd m_X2_whyOf 2 := ⟨wd_35_8, wd_2_5, ⟨by decide +kernel, by decide +kernel, by decide +kernel⟩⟩
set_option maxRecDepth 100000 in
set_option maxHeartbeats 4000000 in
theorem l_X2_whyOf_40  (t0 : Option Nat) (t1 : Int32) (t2 : Nat) (t3 : Int32) (σ : aSt) (o : Int32 × aSt) (h : f_X2_whyOf_40  t0 t1 t2 t3 σ = some o) : AW true m_X2_whyOf 40 [] [.int (t3), va_rf (some (t2)), .int (t1), va_rf (t0)] σ 0 0 (some (.int o.1)) o.2 := by
  unfold f_X2_whyOf_40 at h
  replace h := e_grd h; obtain ⟨g10, h⟩ := h
  replace h := e_grd h; obtain ⟨b11, h⟩ := h
  refine w_iaload dX2_whyOf_40 ⟨g10.1, Or.inl g10.2⟩ b11 ?_
  replace h := e_oS h; obtain ⟨a12, r13, h⟩ := h
  rw [r13]
  replace h := e_grd h; obtain ⟨g16, h⟩ := h
  replace h := e_bind h; obtain ⟨q14, e15, h⟩ := h
  refine w_callV1 (M2 := m_X8_fewest) (av := [.int (t1), .int (gI σ t2 t3.toNatClampNeg)]) (ci := 8) (c_X8_fewest _ _ _ _ _ e15) dX2_whyOf_41 kd_X8_fewest wd_35_12 wd_35_13 wd_35_14 rfl rfl ⟨g16.1, Or.inl g16.2⟩ rfl ⟨Nat.le_of_ble_eq_true rfl, Nat.le_of_ble_eq_true rfl, Nat.le_of_ble_eq_true rfl, Nat.le_of_ble_eq_true rfl⟩ (Nat.le_of_ble_eq_true rfl) ?_
  obtain rfl := Option.some.inj h
  exact w_ireturn dX2_whyOf_44 rfl (Nat.le_of_ble_eq_true rfl) (Nat.le_of_ble_eq_true rfl)
set_option maxRecDepth 100000 in
set_option maxHeartbeats 4000000 in
theorem c_X2_whyOf (p1 : Nat) (p2 : Int32) (σ : aSt) (o : Int32 × aSt) (h : f_X2_whyOf p1 p2 σ = some o) : AM true m_X2_whyOf [va_rf (some (11)), va_rf (some (p1)), .int (p2)] σ (some (.int o.1)) o.2 := by
  refine AM_of2 (lv := [(0, va_rf (some (11))), (1, va_rf (some (p1))), (2, Value.int (p2))]) (by decide +kernel) rfl (Nat.le_of_ble_eq_true rfl) ?_
  unfold f_X2_whyOf at h
  refine w_aload_n 0 ((some (11))) dX2_whyOf_0 rfl rfl ?_
  refine w_aload_n 1 ((some (p1))) dX2_whyOf_1 rfl rfl ?_
  refine w_iload_n 2 dX2_whyOf_2 rfl rfl ?_
  replace h := e_bind h; obtain ⟨q1, e2, h⟩ := h
  refine w_callV1 (M2 := m_X2_actOf) (av := [va_rf (some (p1)), .int (p2)]) (ci := 2) (c_X2_actOf _ _ _ _ e2) dX2_whyOf_3 kd_X2_actOf wd_35_10 wd_34_18 wd_34_19 rfl rfl ⟨rfl, Or.inr ⟨rfl, by decide⟩⟩ rfl ⟨Nat.le_of_ble_eq_true rfl, Nat.le_of_ble_eq_true rfl, Nat.le_of_ble_eq_true rfl, Nat.le_of_ble_eq_true rfl⟩ (Nat.le_of_ble_eq_true rfl) ?_
  refine w_istore_n dX2_whyOf_6 rfl (by decide) rfl ?_
  refine w_iload_n 0 dX2_whyOf_7 rfl rfl ?_
  refine w_if_ne 13 dX2_whyOf_8 (by decide) (fun c3 => ?_) (fun c3 => ?_)
  · replace h := e_f c3 h
    refine w_aload_n 1 ((some (11))) dX2_whyOf_13 rfl rfl ?_
    refine w_get dX2_whyOf_14 fl_RX2_12 ⟨rfl, Or.inr ⟨rfl, by decide⟩⟩ (aFv_q (Or.inl rfl)) ?_
    refine w_aload_n 1 ((some (11))) dX2_whyOf_17 rfl rfl ?_
    refine w_aload_n 2 ((some (p1))) dX2_whyOf_18 rfl rfl ?_
    refine w_iload_n 3 dX2_whyOf_19 rfl rfl ?_
    replace h := e_bind h; obtain ⟨q4, e5, h⟩ := h
    refine w_callV1 (M2 := m_X2_heldBy) (av := [va_rf (some (p1)), .int (p2)]) (ci := 2) (c_X2_heldBy _ _ _ _ e5) dX2_whyOf_20 kd_X2_heldBy wd_35_11 wd_35_2 wd_35_3 rfl rfl ⟨rfl, Or.inr ⟨rfl, by decide⟩⟩ rfl ⟨Nat.le_of_ble_eq_true rfl, Nat.le_of_ble_eq_true rfl, Nat.le_of_ble_eq_true rfl, Nat.le_of_ble_eq_true rfl⟩ (by simp [aRf_cat, aI_cat, aL_cat]) ?_
    refine w_aload_n 1 ((some (11))) dX2_whyOf_23 rfl rfl ?_
    refine w_get dX2_whyOf_24 fl_RX2_12 ⟨rfl, Or.inr ⟨rfl, by decide⟩⟩ (aFv_q (Or.inl rfl)) ?_
    replace h := e_oS h; obtain ⟨a6, r7, h⟩ := h
    rw [r7]
    replace h := e_grd h; obtain ⟨g8, h⟩ := h
    refine w_get (v := va_rf (some ((a6 + 1)))) dX2_whyOf_27 fl_RX2_102 ⟨g8.1, Or.inl g8.2⟩ (aFv_k rfl) ?_
    refine w_iload_n 0 dX2_whyOf_30 rfl rfl ?_
    refine w_iconst (v := 2) dX2_whyOf_31 (by decide) ?_
    refine w_icmp_ne 39 dX2_whyOf_32 (by decide) (fun c9 => ?_) (fun c9 => ?_)
    · replace h := e_f c9 h
      refine w_iconst (v := 2) dX2_whyOf_39 (by decide) ?_
      refine w_sub [] rfl ?_
      exact l_X2_whyOf_40 _ _ _ _ _ _ h
    · replace h := e_t c9 h
      refine w_iconst (v := 3) dX2_whyOf_35 (by decide) ?_
      refine w_goto 40 dX2_whyOf_36 (by decide) ?_
      refine w_sub [] rfl ?_
      exact l_X2_whyOf_40 _ _ _ _ _ _ h
  · replace h := e_t c3 h
    refine w_iconst (v := 0) dX2_whyOf_11 (by decide) ?_
    obtain rfl := Option.some.inj h
    exact w_ireturn dX2_whyOf_12 rfl (Nat.le_of_ble_eq_true rfl) (Nat.le_of_ble_eq_true rfl)
theorem dX11_judged_0 : decode cX11_judged 0 = .ok (.aload_n 0, 1) := by decide +kernel
theorem dX11_judged_1 : decode cX11_judged 1 = .ok (.getfield 18, 3) := by decide +kernel
theorem dX11_judged_4 : decode cX11_judged 4 = .ok (.iload_n 1, 1) := by decide +kernel
theorem dX11_judged_5 : decode cX11_judged 5 = .ok (.invokevirtual 141, 3) := by decide +kernel
theorem dX11_judged_8 : decode cX11_judged 8 = .ok (.astore 4, 2) := by decide +kernel
theorem dX11_judged_10 : decode cX11_judged 10 = .ok (.aload 4, 2) := by decide +kernel
theorem dX11_judged_12 : decode cX11_judged 12 = .ok (.ifnull 12, 3) := by decide +kernel
theorem dX11_judged_15 : decode cX11_judged 15 = .ok (.iload_n 2, 1) := by decide +kernel
theorem dX11_judged_16 : decode cX11_judged 16 = .ok (.iconst 0, 1) := by decide +kernel
theorem dX11_judged_17 : decode cX11_judged 17 = .ok (.iconst 1, 1) := by decide +kernel
theorem dX11_judged_18 : decode cX11_judged 18 = .ok (.invokestatic 89, 3) := by decide +kernel
theorem dX11_judged_21 : decode cX11_judged 21 = .ok (.ifCond .ne 6, 3) := by decide +kernel
theorem dX11_judged_24 : decode cX11_judged 24 = .ok (.ldc 93, 2) := by decide +kernel
theorem dX11_judged_26 : decode cX11_judged 26 = .ok (.ireturn, 1) := by decide +kernel
theorem dX11_judged_27 : decode cX11_judged 27 = .ok (.iload_n 3, 1) := by decide +kernel
theorem dX11_judged_28 : decode cX11_judged 28 = .ok (.tableswitch 76 0 3 #[32, 43, 54, 65], 32) := by decide +kernel
theorem dX11_judged_60 : decode cX11_judged 60 = .ok (.aload_n 0, 1) := by decide +kernel
theorem dX11_judged_61 : decode cX11_judged 61 = .ok (.getfield 43, 3) := by decide +kernel
theorem dX11_judged_64 : decode cX11_judged 64 = .ok (.aload 4, 2) := by decide +kernel
theorem dX11_judged_66 : decode cX11_judged 66 = .ok (.iload_n 2, 1) := by decide +kernel
theorem dX11_judged_67 : decode cX11_judged 67 = .ok (.invokevirtual 225, 3) := by decide +kernel
theorem dX11_judged_70 : decode cX11_judged 70 = .ok (.ireturn, 1) := by decide +kernel
theorem dX11_judged_71 : decode cX11_judged 71 = .ok (.aload_n 0, 1) := by decide +kernel
theorem dX11_judged_72 : decode cX11_judged 72 = .ok (.getfield 43, 3) := by decide +kernel
theorem dX11_judged_75 : decode cX11_judged 75 = .ok (.aload 4, 2) := by decide +kernel
theorem dX11_judged_77 : decode cX11_judged 77 = .ok (.iload_n 2, 1) := by decide +kernel
theorem dX11_judged_78 : decode cX11_judged 78 = .ok (.invokevirtual 229, 3) := by decide +kernel
theorem dX11_judged_81 : decode cX11_judged 81 = .ok (.ireturn, 1) := by decide +kernel
theorem dX11_judged_82 : decode cX11_judged 82 = .ok (.aload_n 0, 1) := by decide +kernel
theorem dX11_judged_83 : decode cX11_judged 83 = .ok (.getfield 43, 3) := by decide +kernel
theorem dX11_judged_86 : decode cX11_judged 86 = .ok (.aload 4, 2) := by decide +kernel
theorem dX11_judged_88 : decode cX11_judged 88 = .ok (.iload_n 2, 1) := by decide +kernel
theorem dX11_judged_89 : decode cX11_judged 89 = .ok (.invokevirtual 232, 3) := by decide +kernel
theorem dX11_judged_92 : decode cX11_judged 92 = .ok (.ireturn, 1) := by decide +kernel
theorem dX11_judged_93 : decode cX11_judged 93 = .ok (.aload_n 0, 1) := by decide +kernel
theorem dX11_judged_94 : decode cX11_judged 94 = .ok (.getfield 43, 3) := by decide +kernel
theorem dX11_judged_97 : decode cX11_judged 97 = .ok (.aload 4, 2) := by decide +kernel
theorem dX11_judged_99 : decode cX11_judged 99 = .ok (.iload_n 2, 1) := by decide +kernel
theorem dX11_judged_100 : decode cX11_judged 100 = .ok (.invokevirtual 235, 3) := by decide +kernel
theorem dX11_judged_103 : decode cX11_judged 103 = .ok (.ireturn, 1) := by decide +kernel
theorem dX11_judged_104 : decode cX11_judged 104 = .ok (.ldc 93, 2) := by decide +kernel
theorem dX11_judged_106 : decode cX11_judged 106 = .ok (.ireturn, 1) := by decide +kernel
theorem kd_X11_judged : aKd m_X11_judged 3 := ⟨wd_33_18, wd_1_2, ⟨by decide +kernel, by decide +kernel, by decide +kernel⟩⟩
set_option maxRecDepth 100000 in
set_option maxHeartbeats 4000000 in
theorem l_X11_judged_24   (σ : aSt) (o : Int32 × aSt) (h : f_X11_judged_24   σ = some o) : AW true m_X11_judged 24 [] [] σ 0 0 (some (.int o.1)) o.2 := by
  unfold f_X11_judged_24 at h
  refine w_ldc (v := (-1000001)) dX11_judged_24 wd_9_18 ?_
  obtain rfl := Option.some.inj h
  exact w_ireturn dX11_judged_26 rfl (Nat.le_of_ble_eq_true rfl) (Nat.le_of_ble_eq_true rfl)
set_option maxRecDepth 100000 in
set_option maxHeartbeats 4000000 in
theorem c_X11_judged (p1 : Int32) (p2 : Int32) (p3 : Int32) (σ : aSt) (o : Int32 × aSt) (h : f_X11_judged p1 p2 p3 σ = some o) : AM true m_X11_judged [va_rf (some (0)), .int (p1), .int (p2), .int (p3)] σ (some (.int o.1)) o.2 := by
  refine AM_of2 (lv := [(0, va_rf (some (0))), (1, Value.int (p1)), (2, Value.int (p2)), (3, Value.int (p3))]) (by decide +kernel) rfl (Nat.le_of_ble_eq_true rfl) ?_
  unfold f_X11_judged at h
  refine w_aload_n 0 ((some (0))) dX11_judged_0 rfl rfl ?_
  refine w_get (v := va_rf (some 2)) dX11_judged_1 fl_RX11_18 ⟨rfl, Or.inr ⟨rfl, by decide⟩⟩ (aFv_k rfl) ?_
  refine w_iload_n 1 dX11_judged_4 rfl rfl ?_
  replace h := e_bind h; obtain ⟨q1, e2, h⟩ := h
  refine w_callV1 (M2 := m_X3_find) (av := [.int (p1)]) (ci := 3) (c_X3_find _ _ _ e2) dX11_judged_5 kd_X3_find wd_13_20 wd_13_21 wd_13_22 rfl rfl ⟨rfl, Or.inr ⟨rfl, by decide⟩⟩ rfl ⟨Nat.le_of_ble_eq_true rfl, Nat.le_of_ble_eq_true rfl, Nat.le_of_ble_eq_true rfl, Nat.le_of_ble_eq_true rfl⟩ (Nat.le_of_ble_eq_true rfl) ?_
  refine w_astore dX11_judged_8 (by decide) rfl ?_
  refine w_aload 0 (q1.1) dX11_judged_10 rfl ?_
  replace h := e_oC h; rcases h with ⟨r19, h⟩ | ⟨a3, r19, h⟩
  · rw [r19]
    refine w_ifnull0 24 dX11_judged_12 (by decide) ?_
    refine w_sub [] rfl ?_
    exact l_X11_judged_24 _ _ h
  · rw [r19]
    refine w_ifnull1 dX11_judged_12 ?_
    refine w_iload_n 3 dX11_judged_15 rfl rfl ?_
    refine w_iconst (v := 0) dX11_judged_16 (by decide) ?_
    refine w_iconst (v := 1) dX11_judged_17 (by decide) ?_
    replace h := e_bind h; obtain ⟨q4, e5, h⟩ := h
    refine w_callS1 (M2 := m_X11_within) (av := [.int (p2), .int (0), .int (1)]) (c_X11_within _ _ _ _ _ e5) dX11_judged_18 kd_X11_within wd_9_22 wd_9_23 rfl rfl ⟨Nat.le_of_ble_eq_true rfl, Nat.le_of_ble_eq_true rfl, Nat.le_of_ble_eq_true rfl, Nat.le_of_ble_eq_true rfl⟩ (Nat.le_of_ble_eq_true rfl) ?_
    refine w_if_ne 27 dX11_judged_21 (by decide) (fun c6 => ?_) (fun c6 => ?_)
    · replace h := e_f c6 h
      refine w_iload_n 4 dX11_judged_27 rfl rfl ?_
      replace h := e_ite h; rcases h with ⟨c7, h⟩ | ⟨c7, h⟩
      · subst c7
        refine w_tabIn (off := 32) 60 dX11_judged_28 (by decide) (by decide) (by decide +kernel) (by decide) ?_
        refine w_aload_n 1 ((some (0))) dX11_judged_60 rfl rfl ?_
        refine w_get (v := va_rf (some 11)) dX11_judged_61 fl_RX11_43 ⟨rfl, Or.inr ⟨rfl, by decide⟩⟩ (aFv_k rfl) ?_
        refine w_aload 0 ((some (a3))) dX11_judged_64 rfl ?_
        refine w_iload_n 3 dX11_judged_66 rfl rfl ?_
        replace h := e_bind h; obtain ⟨q8, e9, h⟩ := h
        refine w_callV1 (M2 := m_X2_scoreOf) (av := [va_rf (some (a3)), .int (p2)]) (ci := 2) (c_X2_scoreOf _ _ _ _ e9) dX11_judged_67 kd_X2_scoreOf wd_33_19 wd_33_20 wd_33_21 rfl rfl ⟨rfl, Or.inr ⟨rfl, by decide⟩⟩ rfl ⟨Nat.le_of_ble_eq_true rfl, Nat.le_of_ble_eq_true rfl, Nat.le_of_ble_eq_true rfl, Nat.le_of_ble_eq_true rfl⟩ (Nat.le_of_ble_eq_true rfl) ?_
        obtain rfl := Option.some.inj h
        exact w_ireturn dX11_judged_70 rfl (Nat.le_of_ble_eq_true rfl) (Nat.le_of_ble_eq_true rfl)
      · replace h := e_ite h; rcases h with ⟨c10, h⟩ | ⟨c10, h⟩
        · subst c10
          refine w_tabIn (off := 43) 71 dX11_judged_28 (by decide) (by decide) (by decide +kernel) (by decide) ?_
          refine w_aload_n 1 ((some (0))) dX11_judged_71 rfl rfl ?_
          refine w_get (v := va_rf (some 11)) dX11_judged_72 fl_RX11_43 ⟨rfl, Or.inr ⟨rfl, by decide⟩⟩ (aFv_k rfl) ?_
          refine w_aload 0 ((some (a3))) dX11_judged_75 rfl ?_
          refine w_iload_n 3 dX11_judged_77 rfl rfl ?_
          replace h := e_bind h; obtain ⟨q11, e12, h⟩ := h
          refine w_callV1 (M2 := m_X2_actOf) (av := [va_rf (some (a3)), .int (p2)]) (ci := 2) (c_X2_actOf _ _ _ _ e12) dX11_judged_78 kd_X2_actOf wd_34_17 wd_34_18 wd_34_19 rfl rfl ⟨rfl, Or.inr ⟨rfl, by decide⟩⟩ rfl ⟨Nat.le_of_ble_eq_true rfl, Nat.le_of_ble_eq_true rfl, Nat.le_of_ble_eq_true rfl, Nat.le_of_ble_eq_true rfl⟩ (Nat.le_of_ble_eq_true rfl) ?_
          obtain rfl := Option.some.inj h
          exact w_ireturn dX11_judged_81 rfl (Nat.le_of_ble_eq_true rfl) (Nat.le_of_ble_eq_true rfl)
        · replace h := e_ite h; rcases h with ⟨c13, h⟩ | ⟨c13, h⟩
          · subst c13
            refine w_tabIn (off := 54) 82 dX11_judged_28 (by decide) (by decide) (by decide +kernel) (by decide) ?_
            refine w_aload_n 1 ((some (0))) dX11_judged_82 rfl rfl ?_
            refine w_get (v := va_rf (some 11)) dX11_judged_83 fl_RX11_43 ⟨rfl, Or.inr ⟨rfl, by decide⟩⟩ (aFv_k rfl) ?_
            refine w_aload 0 ((some (a3))) dX11_judged_86 rfl ?_
            refine w_iload_n 3 dX11_judged_88 rfl rfl ?_
            replace h := e_bind h; obtain ⟨q14, e15, h⟩ := h
            refine w_callV1 (M2 := m_X2_heldBy) (av := [va_rf (some (a3)), .int (p2)]) (ci := 2) (c_X2_heldBy _ _ _ _ e15) dX11_judged_89 kd_X2_heldBy wd_35_1 wd_35_2 wd_35_3 rfl rfl ⟨rfl, Or.inr ⟨rfl, by decide⟩⟩ rfl ⟨Nat.le_of_ble_eq_true rfl, Nat.le_of_ble_eq_true rfl, Nat.le_of_ble_eq_true rfl, Nat.le_of_ble_eq_true rfl⟩ (Nat.le_of_ble_eq_true rfl) ?_
            obtain rfl := Option.some.inj h
            exact w_ireturn dX11_judged_92 rfl (Nat.le_of_ble_eq_true rfl) (Nat.le_of_ble_eq_true rfl)
          · replace h := e_ite h; rcases h with ⟨c16, h⟩ | ⟨c16, h⟩
            · subst c16
              refine w_tabIn (off := 65) 93 dX11_judged_28 (by decide) (by decide) (by decide +kernel) (by decide) ?_
              refine w_aload_n 1 ((some (0))) dX11_judged_93 rfl rfl ?_
              refine w_get (v := va_rf (some 11)) dX11_judged_94 fl_RX11_43 ⟨rfl, Or.inr ⟨rfl, by decide⟩⟩ (aFv_k rfl) ?_
              refine w_aload 0 ((some (a3))) dX11_judged_97 rfl ?_
              refine w_iload_n 3 dX11_judged_99 rfl rfl ?_
              replace h := e_bind h; obtain ⟨q17, e18, h⟩ := h
              refine w_callV1 (M2 := m_X2_whyOf) (av := [va_rf (some (a3)), .int (p2)]) (ci := 2) (c_X2_whyOf _ _ _ _ e18) dX11_judged_100 kd_X2_whyOf wd_35_5 wd_35_6 wd_35_7 rfl rfl ⟨rfl, Or.inr ⟨rfl, by decide⟩⟩ rfl ⟨Nat.le_of_ble_eq_true rfl, Nat.le_of_ble_eq_true rfl, Nat.le_of_ble_eq_true rfl, Nat.le_of_ble_eq_true rfl⟩ (Nat.le_of_ble_eq_true rfl) ?_
              obtain rfl := Option.some.inj h
              exact w_ireturn dX11_judged_103 rfl (Nat.le_of_ble_eq_true rfl) (Nat.le_of_ble_eq_true rfl)
            · refine w_tabOut 104 dX11_judged_28 (by have zc7 := lv_neT (a := 0) c7 (by decide); have zc10 := lv_neT (a := 1) c10 (by decide); have zc13 := lv_neT (a := 2) c13 (by decide); have zc16 := lv_neT (a := 3) c16 (by decide); omega) (by decide) ?_
              refine w_ldc (v := (-1000001)) dX11_judged_104 wd_9_18 ?_
              obtain rfl := Option.some.inj h
              exact w_ireturn dX11_judged_106 rfl (Nat.le_of_ble_eq_true rfl) (Nat.le_of_ble_eq_true rfl)
    · replace h := e_t c6 h
      refine w_sub [] rfl ?_
      exact l_X11_judged_24 _ _ h
theorem dX2_actIf_0 : decode cX2_actIf 0 = .ok (.aload_n 0, 1) := by decide +kernel
theorem dX2_actIf_1 : decode cX2_actIf 1 = .ok (.aload_n 1, 1) := by decide +kernel
theorem dX2_actIf_2 : decode cX2_actIf 2 = .ok (.iconst 0, 1) := by decide +kernel
theorem dX2_actIf_3 : decode cX2_actIf 3 = .ok (.invokevirtual 88, 3) := by decide +kernel
theorem dX2_actIf_6 : decode cX2_actIf 6 = .ok (.astore_n 3, 1) := by decide +kernel
theorem dX2_actIf_7 : decode cX2_actIf 7 = .ok (.aload_n 3, 1) := by decide +kernel
theorem dX2_actIf_8 : decode cX2_actIf 8 = .ok (.iload_n 2, 1) := by decide +kernel
theorem dX2_actIf_9 : decode cX2_actIf 9 = .ok (.invokevirtual 92, 3) := by decide +kernel
theorem dX2_actIf_12 : decode cX2_actIf 12 = .ok (.aload_n 0, 1) := by decide +kernel
theorem dX2_actIf_13 : decode cX2_actIf 13 = .ok (.getfield 12, 3) := by decide +kernel
theorem dX2_actIf_16 : decode cX2_actIf 16 = .ok (.aload_n 0, 1) := by decide +kernel
theorem dX2_actIf_17 : decode cX2_actIf 17 = .ok (.getfield 12, 3) := by decide +kernel
theorem dX2_actIf_20 : decode cX2_actIf 20 = .ok (.aload_n 0, 1) := by decide +kernel
theorem dX2_actIf_21 : decode cX2_actIf 21 = .ok (.getfield 12, 3) := by decide +kernel
theorem dX2_actIf_24 : decode cX2_actIf 24 = .ok (.aload_n 3, 1) := by decide +kernel
theorem dX2_actIf_25 : decode cX2_actIf 25 = .ok (.getfield 78, 3) := by decide +kernel
theorem dX2_actIf_28 : decode cX2_actIf 28 = .ok (.invokevirtual 81, 3) := by decide +kernel
theorem dX2_actIf_31 : decode cX2_actIf 31 = .ok (.invokevirtual 85, 3) := by decide +kernel
theorem dX2_actIf_34 : decode cX2_actIf 34 = .ok (.invokevirtual 67, 3) := by decide +kernel
theorem dX2_actIf_37 : decode cX2_actIf 37 = .ok (.ireturn, 1) := by decide +kernel
theorem kd_X2_actIf : aKd m_X2_actIf 2 := ⟨wd_37_7, wd_2_5, ⟨by decide +kernel, by decide +kernel, by decide +kernel⟩⟩
set_option maxRecDepth 100000 in
set_option maxHeartbeats 4000000 in
theorem c_X2_actIf (p1 : Nat) (p2 : Int32) (σ : aSt) (o : Int32 × aSt) (h : f_X2_actIf p1 p2 σ = some o) : AM true m_X2_actIf [va_rf (some (11)), va_rf (some (p1)), .int (p2)] σ (some (.int o.1)) o.2 := by
  refine AM_of2 (lv := [(0, va_rf (some (11))), (1, va_rf (some (p1))), (2, Value.int (p2))]) (by decide +kernel) rfl (Nat.le_of_ble_eq_true rfl) ?_
  unfold f_X2_actIf at h
  refine w_aload_n 0 ((some (11))) dX2_actIf_0 rfl rfl ?_
  refine w_aload_n 1 ((some (p1))) dX2_actIf_1 rfl rfl ?_
  refine w_iconst (v := 0) dX2_actIf_2 (by decide) ?_
  replace h := e_bind h; obtain ⟨q1, e2, h⟩ := h
  refine w_callV1 (M2 := m_X2_rowOf) (av := [va_rf (some (p1)), .int (0)]) (ci := 2) (c_X2_rowOf _ _ _ _ e2) dX2_actIf_3 kd_X2_rowOf wd_37_8 wd_18_16 wd_18_17 rfl rfl ⟨rfl, Or.inr ⟨rfl, by decide⟩⟩ rfl ⟨Nat.le_of_ble_eq_true rfl, Nat.le_of_ble_eq_true rfl, Nat.le_of_ble_eq_true rfl, Nat.le_of_ble_eq_true rfl⟩ (Nat.le_of_ble_eq_true rfl) ?_
  refine w_astore_n dX2_actIf_6 rfl (by decide) rfl ?_
  refine w_aload_n 0 ((some (20))) dX2_actIf_7 rfl rfl ?_
  refine w_iload_n 3 dX2_actIf_8 rfl rfl ?_
  replace h := e_bind h; obtain ⟨q3, e4, h⟩ := h
  refine w_callV0 (M2 := m_X7_takeAmount) (av := [.int (p2)]) (ci := 7) (c_X7_takeAmount _ _ _ _ e4) dX2_actIf_9 kd_X7_takeAmount wd_37_9 wd_20_14 wd_20_15 rfl rfl ⟨rfl, Or.inr ⟨rfl, by decide⟩⟩ rfl ⟨Nat.le_of_ble_eq_true rfl, Nat.le_of_ble_eq_true rfl, Nat.le_of_ble_eq_true rfl, Nat.le_of_ble_eq_true rfl⟩ (Nat.le_of_ble_eq_true rfl) ?_
  refine w_aload_n 1 ((some (11))) dX2_actIf_12 rfl rfl ?_
  refine w_get dX2_actIf_13 fl_RX2_12 ⟨rfl, Or.inr ⟨rfl, by decide⟩⟩ (aFv_q (Or.inl rfl)) ?_
  refine w_aload_n 1 ((some (11))) dX2_actIf_16 rfl rfl ?_
  refine w_get dX2_actIf_17 fl_RX2_12 ⟨rfl, Or.inr ⟨rfl, by decide⟩⟩ (aFv_q (Or.inl rfl)) ?_
  refine w_aload_n 1 ((some (11))) dX2_actIf_20 rfl rfl ?_
  refine w_get dX2_actIf_21 fl_RX2_12 ⟨rfl, Or.inr ⟨rfl, by decide⟩⟩ (aFv_q (Or.inl rfl)) ?_
  refine w_aload_n 0 ((some (20))) dX2_actIf_24 rfl rfl ?_
  refine w_get (v := va_rf (some 21)) dX2_actIf_25 fl_RX2_78 ⟨rfl, Or.inr ⟨rfl, by decide⟩⟩ (aFv_k rfl) ?_
  replace h := e_oS h; obtain ⟨a5, r6, h⟩ := h
  rw [r6]
  replace h := e_grd h; obtain ⟨g9, h⟩ := h
  replace h := e_bind h; obtain ⟨q7, e8, h⟩ := h
  refine w_callV1 (M2 := m_X8_thatHold) (av := [va_rf (some (21))]) (ci := 8) (c_X8_thatHold _ _ _ e8) dX2_actIf_28 kd_X8_thatHold wd_34_5 wd_34_6 wd_34_7 rfl rfl ⟨g9.1, Or.inl g9.2⟩ rfl ⟨Nat.le_of_ble_eq_true rfl, Nat.le_of_ble_eq_true rfl, Nat.le_of_ble_eq_true rfl, Nat.le_of_ble_eq_true rfl⟩ (Nat.le_of_ble_eq_true rfl) ?_
  replace h := e_grd h; obtain ⟨g12, h⟩ := h
  replace h := e_bind h; obtain ⟨q10, e11, h⟩ := h
  refine w_callV1 (M2 := m_X8_weigh) (av := [.int (q7.1)]) (ci := 8) (c_X8_weigh _ _ _ _ e11) dX2_actIf_31 kd_X8_weigh wd_34_13 wd_34_14 wd_34_15 rfl rfl ⟨g12.1, Or.inl g12.2⟩ rfl ⟨Nat.le_of_ble_eq_true rfl, Nat.le_of_ble_eq_true rfl, Nat.le_of_ble_eq_true rfl, Nat.le_of_ble_eq_true rfl⟩ (Nat.le_of_ble_eq_true rfl) ?_
  replace h := e_grd h; obtain ⟨g15, h⟩ := h
  replace h := e_bind h; obtain ⟨q13, e14, h⟩ := h
  refine w_callV1 (M2 := m_X8_actAt) (av := [.int (q10.1)]) (ci := 8) (c_X8_actAt _ _ _ _ e14) dX2_actIf_34 kd_X8_actAt wd_34_21 wd_34_22 wd_34_23 rfl rfl ⟨g15.1, Or.inl g15.2⟩ rfl ⟨Nat.le_of_ble_eq_true rfl, Nat.le_of_ble_eq_true rfl, Nat.le_of_ble_eq_true rfl, Nat.le_of_ble_eq_true rfl⟩ (Nat.le_of_ble_eq_true rfl) ?_
  obtain rfl := Option.some.inj h
  exact w_ireturn dX2_actIf_37 rfl (Nat.le_of_ble_eq_true rfl) (Nat.le_of_ble_eq_true rfl)
theorem dX11_would_0 : decode cX11_would 0 = .ok (.aload_n 0, 1) := by decide +kernel
theorem dX11_would_1 : decode cX11_would 1 = .ok (.getfield 18, 3) := by decide +kernel
theorem dX11_would_4 : decode cX11_would 4 = .ok (.iload_n 1, 1) := by decide +kernel
theorem dX11_would_5 : decode cX11_would 5 = .ok (.invokevirtual 141, 3) := by decide +kernel
theorem dX11_would_8 : decode cX11_would 8 = .ok (.astore_n 3, 1) := by decide +kernel
theorem dX11_would_9 : decode cX11_would 9 = .ok (.aload_n 3, 1) := by decide +kernel
theorem dX11_would_10 : decode cX11_would 10 = .ok (.ifnull 13, 3) := by decide +kernel
theorem dX11_would_13 : decode cX11_would 13 = .ok (.iload_n 2, 1) := by decide +kernel
theorem dX11_would_14 : decode cX11_would 14 = .ok (.iconst 1, 1) := by decide +kernel
theorem dX11_would_15 : decode cX11_would 15 = .ok (.ldc 238, 2) := by decide +kernel
theorem dX11_would_17 : decode cX11_would 17 = .ok (.invokestatic 89, 3) := by decide +kernel
theorem dX11_would_20 : decode cX11_would 20 = .ok (.ifCond .ne 6, 3) := by decide +kernel
theorem dX11_would_23 : decode cX11_would 23 = .ok (.ldc 93, 2) := by decide +kernel
theorem dX11_would_25 : decode cX11_would 25 = .ok (.ireturn, 1) := by decide +kernel
theorem dX11_would_26 : decode cX11_would 26 = .ok (.aload_n 0, 1) := by decide +kernel
theorem dX11_would_27 : decode cX11_would 27 = .ok (.getfield 43, 3) := by decide +kernel
theorem dX11_would_30 : decode cX11_would 30 = .ok (.aload_n 3, 1) := by decide +kernel
theorem dX11_would_31 : decode cX11_would 31 = .ok (.iload_n 2, 1) := by decide +kernel
theorem dX11_would_32 : decode cX11_would 32 = .ok (.invokevirtual 239, 3) := by decide +kernel
theorem dX11_would_35 : decode cX11_would 35 = .ok (.ireturn, 1) := by decide +kernel
theorem kd_X11_would : aKd m_X11_would 2 := ⟨wd_37_3, wd_1_2, ⟨by decide +kernel, by decide +kernel, by decide +kernel⟩⟩
set_option maxRecDepth 100000 in
set_option maxHeartbeats 4000000 in
theorem l_X11_would_23   (σ : aSt) (o : Int32 × aSt) (h : f_X11_would_23   σ = some o) : AW true m_X11_would 23 [] [] σ 0 0 (some (.int o.1)) o.2 := by
  unfold f_X11_would_23 at h
  refine w_ldc (v := (-1000001)) dX11_would_23 wd_9_18 ?_
  obtain rfl := Option.some.inj h
  exact w_ireturn dX11_would_25 rfl (Nat.le_of_ble_eq_true rfl) (Nat.le_of_ble_eq_true rfl)
set_option maxRecDepth 100000 in
set_option maxHeartbeats 4000000 in
theorem c_X11_would (p1 : Int32) (p2 : Int32) (σ : aSt) (o : Int32 × aSt) (h : f_X11_would p1 p2 σ = some o) : AM true m_X11_would [va_rf (some (0)), .int (p1), .int (p2)] σ (some (.int o.1)) o.2 := by
  refine AM_of2 (lv := [(0, va_rf (some (0))), (1, Value.int (p1)), (2, Value.int (p2))]) (by decide +kernel) rfl (Nat.le_of_ble_eq_true rfl) ?_
  unfold f_X11_would at h
  refine w_aload_n 0 ((some (0))) dX11_would_0 rfl rfl ?_
  refine w_get (v := va_rf (some 2)) dX11_would_1 fl_RX11_18 ⟨rfl, Or.inr ⟨rfl, by decide⟩⟩ (aFv_k rfl) ?_
  refine w_iload_n 1 dX11_would_4 rfl rfl ?_
  replace h := e_bind h; obtain ⟨q1, e2, h⟩ := h
  refine w_callV1 (M2 := m_X3_find) (av := [.int (p1)]) (ci := 3) (c_X3_find _ _ _ e2) dX11_would_5 kd_X3_find wd_13_20 wd_13_21 wd_13_22 rfl rfl ⟨rfl, Or.inr ⟨rfl, by decide⟩⟩ rfl ⟨Nat.le_of_ble_eq_true rfl, Nat.le_of_ble_eq_true rfl, Nat.le_of_ble_eq_true rfl, Nat.le_of_ble_eq_true rfl⟩ (Nat.le_of_ble_eq_true rfl) ?_
  refine w_astore_n dX11_would_8 rfl (by decide) rfl ?_
  refine w_aload_n 0 (q1.1) dX11_would_9 rfl rfl ?_
  replace h := e_oC h; rcases h with ⟨r9, h⟩ | ⟨a3, r9, h⟩
  · rw [r9]
    refine w_ifnull0 23 dX11_would_10 (by decide) ?_
    refine w_sub [] rfl ?_
    exact l_X11_would_23 _ _ h
  · rw [r9]
    refine w_ifnull1 dX11_would_10 ?_
    refine w_iload_n 3 dX11_would_13 rfl rfl ?_
    refine w_iconst (v := 1) dX11_would_14 (by decide) ?_
    refine w_ldc (v := 100000) dX11_would_15 wd_13_12 ?_
    replace h := e_bind h; obtain ⟨q4, e5, h⟩ := h
    refine w_callS1 (M2 := m_X11_within) (av := [.int (p2), .int (1), .int (100000)]) (c_X11_within _ _ _ _ _ e5) dX11_would_17 kd_X11_within wd_9_22 wd_9_23 rfl rfl ⟨Nat.le_of_ble_eq_true rfl, Nat.le_of_ble_eq_true rfl, Nat.le_of_ble_eq_true rfl, Nat.le_of_ble_eq_true rfl⟩ (Nat.le_of_ble_eq_true rfl) ?_
    refine w_if_ne 26 dX11_would_20 (by decide) (fun c6 => ?_) (fun c6 => ?_)
    · replace h := e_f c6 h
      refine w_aload_n 1 ((some (0))) dX11_would_26 rfl rfl ?_
      refine w_get (v := va_rf (some 11)) dX11_would_27 fl_RX11_43 ⟨rfl, Or.inr ⟨rfl, by decide⟩⟩ (aFv_k rfl) ?_
      refine w_aload_n 0 ((some (a3))) dX11_would_30 rfl rfl ?_
      refine w_iload_n 3 dX11_would_31 rfl rfl ?_
      replace h := e_bind h; obtain ⟨q7, e8, h⟩ := h
      refine w_callV1 (M2 := m_X2_actIf) (av := [va_rf (some (a3)), .int (p2)]) (ci := 2) (c_X2_actIf _ _ _ _ e8) dX11_would_32 kd_X2_actIf wd_37_4 wd_37_5 wd_37_6 rfl rfl ⟨rfl, Or.inr ⟨rfl, by decide⟩⟩ rfl ⟨Nat.le_of_ble_eq_true rfl, Nat.le_of_ble_eq_true rfl, Nat.le_of_ble_eq_true rfl, Nat.le_of_ble_eq_true rfl⟩ (Nat.le_of_ble_eq_true rfl) ?_
      obtain rfl := Option.some.inj h
      exact w_ireturn dX11_would_35 rfl (Nat.le_of_ble_eq_true rfl) (Nat.le_of_ble_eq_true rfl)
    · replace h := e_t c6 h
      refine w_sub [] rfl ?_
      exact l_X11_would_23 _ _ h
theorem dX2_manyWith_0 : decode cX2_manyWith 0 = .ok (.iconst 0, 1) := by decide +kernel
theorem dX2_manyWith_1 : decode cX2_manyWith 1 = .ok (.istore_n 2, 1) := by decide +kernel
theorem dX2_manyWith_2 : decode cX2_manyWith 2 = .ok (.iconst 0, 1) := by decide +kernel
theorem dX2_manyWith_3 : decode cX2_manyWith 3 = .ok (.istore_n 3, 1) := by decide +kernel
theorem dX2_manyWith_4 : decode cX2_manyWith 4 = .ok (.iload_n 3, 1) := by decide +kernel
theorem dX2_manyWith_5 : decode cX2_manyWith 5 = .ok (.aload_n 0, 1) := by decide +kernel
theorem dX2_manyWith_6 : decode cX2_manyWith 6 = .ok (.getfield 46, 3) := by decide +kernel
theorem dX2_manyWith_9 : decode cX2_manyWith 9 = .ok (.getfield 112, 3) := by decide +kernel
theorem dX2_manyWith_12 : decode cX2_manyWith 12 = .ok (.if_icmp .ge 38, 3) := by decide +kernel
theorem dX2_manyWith_15 : decode cX2_manyWith 15 = .ok (.aload_n 0, 1) := by decide +kernel
theorem dX2_manyWith_16 : decode cX2_manyWith 16 = .ok (.getfield 46, 3) := by decide +kernel
theorem dX2_manyWith_19 : decode cX2_manyWith 19 = .ok (.iload_n 3, 1) := by decide +kernel
theorem dX2_manyWith_20 : decode cX2_manyWith 20 = .ok (.invokevirtual 117, 3) := by decide +kernel
theorem dX2_manyWith_23 : decode cX2_manyWith 23 = .ok (.astore 4, 2) := by decide +kernel
theorem dX2_manyWith_25 : decode cX2_manyWith 25 = .ok (.aload 4, 2) := by decide +kernel
theorem dX2_manyWith_27 : decode cX2_manyWith 27 = .ok (.ifnull 17, 3) := by decide +kernel
theorem dX2_manyWith_30 : decode cX2_manyWith 30 = .ok (.aload_n 0, 1) := by decide +kernel
theorem dX2_manyWith_31 : decode cX2_manyWith 31 = .ok (.aload 4, 2) := by decide +kernel
theorem dX2_manyWith_33 : decode cX2_manyWith 33 = .ok (.iconst 0, 1) := by decide +kernel
theorem dX2_manyWith_34 : decode cX2_manyWith 34 = .ok (.invokevirtual 96, 3) := by decide +kernel
theorem dX2_manyWith_37 : decode cX2_manyWith 37 = .ok (.iload_n 1, 1) := by decide +kernel
theorem dX2_manyWith_38 : decode cX2_manyWith 38 = .ok (.if_icmp .ne 6, 3) := by decide +kernel
theorem dX2_manyWith_41 : decode cX2_manyWith 41 = .ok (.iinc 2 1, 3) := by decide +kernel
theorem dX2_manyWith_44 : decode cX2_manyWith 44 = .ok (.iinc 3 1, 3) := by decide +kernel
theorem dX2_manyWith_47 : decode cX2_manyWith 47 = .ok (.goto (-43), 3) := by decide +kernel
theorem dX2_manyWith_50 : decode cX2_manyWith 50 = .ok (.iload_n 2, 1) := by decide +kernel
theorem dX2_manyWith_51 : decode cX2_manyWith 51 = .ok (.ireturn, 1) := by decide +kernel
theorem kd_X2_manyWith : aKd m_X2_manyWith 1 := ⟨wd_37_21, wd_2_5, ⟨by decide +kernel, by decide +kernel, by decide +kernel⟩⟩
set_option maxRecDepth 100000 in
set_option maxHeartbeats 4000000 in
theorem l_X2_manyWith_44 (rec4 : Int32 → Int32 → Int32 → aSt → Option (Int32 × aSt)) (hrec4 : ∀ (x1 : Int32) (x2 : Int32) (x3 : Int32) (σ : aSt) (o : Int32 × aSt), rec4 x1 x2 x3 σ = some o → AW true m_X2_manyWith 4 [(0, va_rf (some (11))), (1, Value.int (x1)), (2, Value.int (x2)), (3, Value.int (x3))] [] σ 0 0 (some (.int o.1)) o.2) (x1 : Int32) (x2 : Int32) (x3 : Int32) (σ : aSt) (o : Int32 × aSt) (h : f_X2_manyWith_44 rec4 x1 x2 x3 σ = some o) : AW true m_X2_manyWith 44 [(0, va_rf (some (11))), (1, Value.int (x1)), (2, Value.int (x2)), (3, Value.int (x3))] [] σ 0 0 (some (.int o.1)) o.2 := by
  unfold f_X2_manyWith_44 at h
  refine w_iinc (q := 3) (v := x3 + 1) dX2_manyWith_44 rfl rfl (by decide) rfl ?_
  refine w_goto 4 dX2_manyWith_47 (by decide) ?_
  refine w_sub [1, 2, 3, 0] rfl ?_
  exact hrec4 _ _ _ _ _ h
set_option maxRecDepth 100000 in
set_option maxHeartbeats 4000000 in
theorem l_X2_manyWith_4_b (rec4 : Int32 → Int32 → Int32 → aSt → Option (Int32 × aSt)) (hrec4 : ∀ (x1 : Int32) (x2 : Int32) (x3 : Int32) (σ : aSt) (o : Int32 × aSt), rec4 x1 x2 x3 σ = some o → AW true m_X2_manyWith 4 [(0, va_rf (some (11))), (1, Value.int (x1)), (2, Value.int (x2)), (3, Value.int (x3))] [] σ 0 0 (some (.int o.1)) o.2) (x1 : Int32) (x2 : Int32) (x3 : Int32) (σ : aSt) (o : Int32 × aSt) (h : f_X2_manyWith_4_b rec4 x1 x2 x3 σ = some o) : AW true m_X2_manyWith 4 [(0, va_rf (some (11))), (1, Value.int (x1)), (2, Value.int (x2)), (3, Value.int (x3))] [] σ 0 0 (some (.int o.1)) o.2 := by
  unfold f_X2_manyWith_4_b at h
  refine w_iload_n 3 dX2_manyWith_4 rfl rfl ?_
  refine w_aload_n 0 ((some (11))) dX2_manyWith_5 rfl rfl ?_
  refine w_get (v := va_rf (some 2)) dX2_manyWith_6 fl_RX2_46 ⟨rfl, Or.inr ⟨rfl, by decide⟩⟩ (aFv_k rfl) ?_
  refine w_get dX2_manyWith_9 fl_RX2_112 ⟨rfl, Or.inr ⟨rfl, by decide⟩⟩ (aFv_i rfl) ?_
  refine w_icmp_ge 50 dX2_manyWith_12 (by decide) (fun c1 => ?_) (fun c1 => ?_)
  · replace h := e_t c1 h
    refine w_iload_n 2 dX2_manyWith_50 rfl rfl ?_
    obtain rfl := Option.some.inj h
    exact w_ireturn dX2_manyWith_51 rfl (Nat.le_of_ble_eq_true rfl) (Nat.le_of_ble_eq_true rfl)
  · replace h := e_f c1 h
    refine w_aload_n 0 ((some (11))) dX2_manyWith_15 rfl rfl ?_
    refine w_get (v := va_rf (some 2)) dX2_manyWith_16 fl_RX2_46 ⟨rfl, Or.inr ⟨rfl, by decide⟩⟩ (aFv_k rfl) ?_
    refine w_iload_n 3 dX2_manyWith_19 rfl rfl ?_
    replace h := e_bind h; obtain ⟨q2, e3, h⟩ := h
    refine w_callV1 (M2 := m_X3_inOrder) (av := [.int (x3)]) (ci := 3) (c_X3_inOrder _ _ _ e3) dX2_manyWith_20 kd_X3_inOrder wd_37_23 wd_17_10 wd_17_11 rfl rfl ⟨rfl, Or.inr ⟨rfl, by decide⟩⟩ rfl ⟨Nat.le_of_ble_eq_true rfl, Nat.le_of_ble_eq_true rfl, Nat.le_of_ble_eq_true rfl, Nat.le_of_ble_eq_true rfl⟩ (Nat.le_of_ble_eq_true rfl) ?_
    refine w_astore dX2_manyWith_23 (by decide) rfl ?_
    refine w_aload 0 (q2.1) dX2_manyWith_25 rfl ?_
    replace h := e_oC h; rcases h with ⟨r8, h⟩ | ⟨a4, r8, h⟩
    · rw [r8]
      refine w_ifnull0 44 dX2_manyWith_27 (by decide) ?_
      refine w_sub [1, 2, 3, 4] rfl ?_
      exact l_X2_manyWith_44 rec4 hrec4 _ _ _ _ _ h
    · rw [r8]
      refine w_ifnull1 dX2_manyWith_27 ?_
      refine w_aload_n 1 ((some (11))) dX2_manyWith_30 rfl rfl ?_
      refine w_aload 0 ((some (a4))) dX2_manyWith_31 rfl ?_
      refine w_iconst (v := 0) dX2_manyWith_33 (by decide) ?_
      replace h := e_bind h; obtain ⟨q5, e6, h⟩ := h
      refine w_callV1 (M2 := m_X2_actOf) (av := [va_rf (some (a4)), .int (0)]) (ci := 2) (c_X2_actOf _ _ _ _ e6) dX2_manyWith_34 kd_X2_actOf wd_35_10 wd_34_18 wd_34_19 rfl rfl ⟨rfl, Or.inr ⟨rfl, by decide⟩⟩ rfl ⟨Nat.le_of_ble_eq_true rfl, Nat.le_of_ble_eq_true rfl, Nat.le_of_ble_eq_true rfl, Nat.le_of_ble_eq_true rfl⟩ (Nat.le_of_ble_eq_true rfl) ?_
      refine w_iload_n 2 dX2_manyWith_37 rfl rfl ?_
      refine w_icmp_ne 44 dX2_manyWith_38 (by decide) (fun c7 => ?_) (fun c7 => ?_)
      · replace h := e_f c7 h
        refine w_sub [1, 2, 3, 4] rfl ?_
        exact l_X2_manyWith_44 rec4 hrec4 _ _ _ _ _ h
      · replace h := e_t c7 h
        refine w_iinc (q := 3) (v := x2 + 1) dX2_manyWith_41 rfl rfl (by decide) rfl ?_
        refine w_sub [2, 3, 0, 4] rfl ?_
        exact l_X2_manyWith_44 rec4 hrec4 _ _ _ _ _ h
theorem l_X2_manyWith_4  : ∀ (n : Nat) (x1 : Int32) (x2 : Int32) (x3 : Int32) (σ : aSt) (o : Int32 × aSt), f_X2_manyWith_4  n x1 x2 x3 σ = some o → AW true m_X2_manyWith 4 [(0, va_rf (some (11))), (1, Value.int (x1)), (2, Value.int (x2)), (3, Value.int (x3))] [] σ 0 0 (some (.int o.1)) o.2
  | 0 => fun x1 x2 x3 σ o h => by cases h
  | n + 1 => fun x1 x2 x3 σ o h => l_X2_manyWith_4_b (f_X2_manyWith_4  n) (l_X2_manyWith_4  n) x1 x2 x3 σ o h
set_option maxRecDepth 100000 in
set_option maxHeartbeats 4000000 in
theorem c_X2_manyWith (p1 : Int32) (σ : aSt) (o : Int32 × aSt) (h : f_X2_manyWith p1 σ = some o) : AM true m_X2_manyWith [va_rf (some (11)), .int (p1)] σ (some (.int o.1)) o.2 := by
  refine AM_of2 (lv := [(0, va_rf (some (11))), (1, Value.int (p1))]) (by decide +kernel) rfl (Nat.le_of_ble_eq_true rfl) ?_
  unfold f_X2_manyWith at h
  refine w_iconst (v := 0) dX2_manyWith_0 (by decide) ?_
  refine w_istore_n dX2_manyWith_1 rfl (by decide) rfl ?_
  refine w_iconst (v := 0) dX2_manyWith_2 (by decide) ?_
  refine w_istore_n dX2_manyWith_3 rfl (by decide) rfl ?_
  refine w_sub [2, 3, 1, 0] rfl ?_
  exact l_X2_manyWith_4 aN _ _ _ _ _ h
theorem dX2_manyOtherThen_0 : decode cX2_manyOtherThen 0 = .ok (.iconst 0, 1) := by decide +kernel
theorem dX2_manyOtherThen_1 : decode cX2_manyOtherThen 1 = .ok (.istore_n 1, 1) := by decide +kernel
theorem dX2_manyOtherThen_2 : decode cX2_manyOtherThen 2 = .ok (.iconst 0, 1) := by decide +kernel
theorem dX2_manyOtherThen_3 : decode cX2_manyOtherThen 3 = .ok (.istore_n 2, 1) := by decide +kernel
theorem dX2_manyOtherThen_4 : decode cX2_manyOtherThen 4 = .ok (.iload_n 2, 1) := by decide +kernel
theorem dX2_manyOtherThen_5 : decode cX2_manyOtherThen 5 = .ok (.aload_n 0, 1) := by decide +kernel
theorem dX2_manyOtherThen_6 : decode cX2_manyOtherThen 6 = .ok (.getfield 46, 3) := by decide +kernel
theorem dX2_manyOtherThen_9 : decode cX2_manyOtherThen 9 = .ok (.getfield 112, 3) := by decide +kernel
theorem dX2_manyOtherThen_12 : decode cX2_manyOtherThen 12 = .ok (.if_icmp .ge 40, 3) := by decide +kernel
theorem dX2_manyOtherThen_15 : decode cX2_manyOtherThen 15 = .ok (.aload_n 0, 1) := by decide +kernel
theorem dX2_manyOtherThen_16 : decode cX2_manyOtherThen 16 = .ok (.getfield 46, 3) := by decide +kernel
theorem dX2_manyOtherThen_19 : decode cX2_manyOtherThen 19 = .ok (.iload_n 2, 1) := by decide +kernel
theorem dX2_manyOtherThen_20 : decode cX2_manyOtherThen 20 = .ok (.invokevirtual 117, 3) := by decide +kernel
theorem dX2_manyOtherThen_23 : decode cX2_manyOtherThen 23 = .ok (.astore_n 3, 1) := by decide +kernel
theorem dX2_manyOtherThen_24 : decode cX2_manyOtherThen 24 = .ok (.aload_n 3, 1) := by decide +kernel
theorem dX2_manyOtherThen_25 : decode cX2_manyOtherThen 25 = .ok (.ifnull 21, 3) := by decide +kernel
theorem dX2_manyOtherThen_28 : decode cX2_manyOtherThen 28 = .ok (.aload_n 0, 1) := by decide +kernel
theorem dX2_manyOtherThen_29 : decode cX2_manyOtherThen 29 = .ok (.aload_n 3, 1) := by decide +kernel
theorem dX2_manyOtherThen_30 : decode cX2_manyOtherThen 30 = .ok (.iconst 0, 1) := by decide +kernel
theorem dX2_manyOtherThen_31 : decode cX2_manyOtherThen 31 = .ok (.invokevirtual 96, 3) := by decide +kernel
theorem dX2_manyOtherThen_34 : decode cX2_manyOtherThen 34 = .ok (.aload_n 0, 1) := by decide +kernel
theorem dX2_manyOtherThen_35 : decode cX2_manyOtherThen 35 = .ok (.aload_n 3, 1) := by decide +kernel
theorem dX2_manyOtherThen_36 : decode cX2_manyOtherThen 36 = .ok (.iconst 1, 1) := by decide +kernel
theorem dX2_manyOtherThen_37 : decode cX2_manyOtherThen 37 = .ok (.invokevirtual 96, 3) := by decide +kernel
theorem dX2_manyOtherThen_40 : decode cX2_manyOtherThen 40 = .ok (.if_icmp .eq 6, 3) := by decide +kernel
theorem dX2_manyOtherThen_43 : decode cX2_manyOtherThen 43 = .ok (.iinc 1 1, 3) := by decide +kernel
theorem dX2_manyOtherThen_46 : decode cX2_manyOtherThen 46 = .ok (.iinc 2 1, 3) := by decide +kernel
theorem dX2_manyOtherThen_49 : decode cX2_manyOtherThen 49 = .ok (.goto (-45), 3) := by decide +kernel
theorem dX2_manyOtherThen_52 : decode cX2_manyOtherThen 52 = .ok (.iload_n 1, 1) := by decide +kernel
theorem dX2_manyOtherThen_53 : decode cX2_manyOtherThen 53 = .ok (.ireturn, 1) := by decide +kernel
theorem kd_X2_manyOtherThen : aKd m_X2_manyOtherThen 0 := ⟨wd_38_3, wd_2_5, ⟨by decide +kernel, by decide +kernel, by decide +kernel⟩⟩
set_option maxRecDepth 100000 in
set_option maxHeartbeats 4000000 in
theorem l_X2_manyOtherThen_46 (rec4 : Int32 → Int32 → aSt → Option (Int32 × aSt)) (hrec4 : ∀ (x1 : Int32) (x2 : Int32) (σ : aSt) (o : Int32 × aSt), rec4 x1 x2 σ = some o → AW true m_X2_manyOtherThen 4 [(0, va_rf (some (11))), (1, Value.int (x1)), (2, Value.int (x2))] [] σ 0 0 (some (.int o.1)) o.2) (x1 : Int32) (x2 : Int32) (σ : aSt) (o : Int32 × aSt) (h : f_X2_manyOtherThen_46 rec4 x1 x2 σ = some o) : AW true m_X2_manyOtherThen 46 [(0, va_rf (some (11))), (1, Value.int (x1)), (2, Value.int (x2))] [] σ 0 0 (some (.int o.1)) o.2 := by
  unfold f_X2_manyOtherThen_46 at h
  refine w_iinc (q := 2) (v := x2 + 1) dX2_manyOtherThen_46 rfl rfl (by decide) rfl ?_
  refine w_goto 4 dX2_manyOtherThen_49 (by decide) ?_
  refine w_sub [1, 2, 0] rfl ?_
  exact hrec4 _ _ _ _ h
set_option maxRecDepth 100000 in
set_option maxHeartbeats 4000000 in
theorem l_X2_manyOtherThen_4_b (rec4 : Int32 → Int32 → aSt → Option (Int32 × aSt)) (hrec4 : ∀ (x1 : Int32) (x2 : Int32) (σ : aSt) (o : Int32 × aSt), rec4 x1 x2 σ = some o → AW true m_X2_manyOtherThen 4 [(0, va_rf (some (11))), (1, Value.int (x1)), (2, Value.int (x2))] [] σ 0 0 (some (.int o.1)) o.2) (x1 : Int32) (x2 : Int32) (σ : aSt) (o : Int32 × aSt) (h : f_X2_manyOtherThen_4_b rec4 x1 x2 σ = some o) : AW true m_X2_manyOtherThen 4 [(0, va_rf (some (11))), (1, Value.int (x1)), (2, Value.int (x2))] [] σ 0 0 (some (.int o.1)) o.2 := by
  unfold f_X2_manyOtherThen_4_b at h
  refine w_iload_n 2 dX2_manyOtherThen_4 rfl rfl ?_
  refine w_aload_n 0 ((some (11))) dX2_manyOtherThen_5 rfl rfl ?_
  refine w_get (v := va_rf (some 2)) dX2_manyOtherThen_6 fl_RX2_46 ⟨rfl, Or.inr ⟨rfl, by decide⟩⟩ (aFv_k rfl) ?_
  refine w_get dX2_manyOtherThen_9 fl_RX2_112 ⟨rfl, Or.inr ⟨rfl, by decide⟩⟩ (aFv_i rfl) ?_
  refine w_icmp_ge 52 dX2_manyOtherThen_12 (by decide) (fun c1 => ?_) (fun c1 => ?_)
  · replace h := e_t c1 h
    refine w_iload_n 1 dX2_manyOtherThen_52 rfl rfl ?_
    obtain rfl := Option.some.inj h
    exact w_ireturn dX2_manyOtherThen_53 rfl (Nat.le_of_ble_eq_true rfl) (Nat.le_of_ble_eq_true rfl)
  · replace h := e_f c1 h
    refine w_aload_n 0 ((some (11))) dX2_manyOtherThen_15 rfl rfl ?_
    refine w_get (v := va_rf (some 2)) dX2_manyOtherThen_16 fl_RX2_46 ⟨rfl, Or.inr ⟨rfl, by decide⟩⟩ (aFv_k rfl) ?_
    refine w_iload_n 2 dX2_manyOtherThen_19 rfl rfl ?_
    replace h := e_bind h; obtain ⟨q2, e3, h⟩ := h
    refine w_callV1 (M2 := m_X3_inOrder) (av := [.int (x2)]) (ci := 3) (c_X3_inOrder _ _ _ e3) dX2_manyOtherThen_20 kd_X3_inOrder wd_37_23 wd_17_10 wd_17_11 rfl rfl ⟨rfl, Or.inr ⟨rfl, by decide⟩⟩ rfl ⟨Nat.le_of_ble_eq_true rfl, Nat.le_of_ble_eq_true rfl, Nat.le_of_ble_eq_true rfl, Nat.le_of_ble_eq_true rfl⟩ (Nat.le_of_ble_eq_true rfl) ?_
    refine w_astore_n dX2_manyOtherThen_23 rfl (by decide) rfl ?_
    refine w_aload_n 0 (q2.1) dX2_manyOtherThen_24 rfl rfl ?_
    replace h := e_oC h; rcases h with ⟨r10, h⟩ | ⟨a4, r10, h⟩
    · rw [r10]
      refine w_ifnull0 46 dX2_manyOtherThen_25 (by decide) ?_
      refine w_sub [1, 2, 3] rfl ?_
      exact l_X2_manyOtherThen_46 rec4 hrec4 _ _ _ _ h
    · rw [r10]
      refine w_ifnull1 dX2_manyOtherThen_25 ?_
      refine w_aload_n 1 ((some (11))) dX2_manyOtherThen_28 rfl rfl ?_
      refine w_aload_n 0 ((some (a4))) dX2_manyOtherThen_29 rfl rfl ?_
      refine w_iconst (v := 0) dX2_manyOtherThen_30 (by decide) ?_
      replace h := e_bind h; obtain ⟨q5, e6, h⟩ := h
      refine w_callV1 (M2 := m_X2_actOf) (av := [va_rf (some (a4)), .int (0)]) (ci := 2) (c_X2_actOf _ _ _ _ e6) dX2_manyOtherThen_31 kd_X2_actOf wd_35_10 wd_34_18 wd_34_19 rfl rfl ⟨rfl, Or.inr ⟨rfl, by decide⟩⟩ rfl ⟨Nat.le_of_ble_eq_true rfl, Nat.le_of_ble_eq_true rfl, Nat.le_of_ble_eq_true rfl, Nat.le_of_ble_eq_true rfl⟩ (Nat.le_of_ble_eq_true rfl) ?_
      refine w_aload_n 1 ((some (11))) dX2_manyOtherThen_34 rfl rfl ?_
      refine w_aload_n 0 ((some (a4))) dX2_manyOtherThen_35 rfl rfl ?_
      refine w_iconst (v := 1) dX2_manyOtherThen_36 (by decide) ?_
      replace h := e_bind h; obtain ⟨q7, e8, h⟩ := h
      refine w_callV1 (M2 := m_X2_actOf) (av := [va_rf (some (a4)), .int (1)]) (ci := 2) (c_X2_actOf _ _ _ _ e8) dX2_manyOtherThen_37 kd_X2_actOf wd_35_10 wd_34_18 wd_34_19 rfl rfl ⟨rfl, Or.inr ⟨rfl, by decide⟩⟩ rfl ⟨Nat.le_of_ble_eq_true rfl, Nat.le_of_ble_eq_true rfl, Nat.le_of_ble_eq_true rfl, Nat.le_of_ble_eq_true rfl⟩ (Nat.le_of_ble_eq_true rfl) ?_
      refine w_icmp_eq 46 dX2_manyOtherThen_40 (by decide) (fun c9 => ?_) (fun c9 => ?_)
      · replace h := e_t c9 h
        refine w_sub [1, 2, 3] rfl ?_
        exact l_X2_manyOtherThen_46 rec4 hrec4 _ _ _ _ h
      · replace h := e_f c9 h
        refine w_iinc (q := 2) (v := x1 + 1) dX2_manyOtherThen_43 rfl rfl (by decide) rfl ?_
        refine w_sub [2, 0, 3] rfl ?_
        exact l_X2_manyOtherThen_46 rec4 hrec4 _ _ _ _ h
theorem l_X2_manyOtherThen_4  : ∀ (n : Nat) (x1 : Int32) (x2 : Int32) (σ : aSt) (o : Int32 × aSt), f_X2_manyOtherThen_4  n x1 x2 σ = some o → AW true m_X2_manyOtherThen 4 [(0, va_rf (some (11))), (1, Value.int (x1)), (2, Value.int (x2))] [] σ 0 0 (some (.int o.1)) o.2
  | 0 => fun x1 x2 σ o h => by cases h
  | n + 1 => fun x1 x2 σ o h => l_X2_manyOtherThen_4_b (f_X2_manyOtherThen_4  n) (l_X2_manyOtherThen_4  n) x1 x2 σ o h
set_option maxRecDepth 100000 in
set_option maxHeartbeats 4000000 in
theorem c_X2_manyOtherThen  (σ : aSt) (o : Int32 × aSt) (h : f_X2_manyOtherThen  σ = some o) : AM true m_X2_manyOtherThen [va_rf (some (11))] σ (some (.int o.1)) o.2 := by
  refine AM_of2 (lv := [(0, va_rf (some (11)))]) (by decide +kernel) rfl (Nat.le_of_ble_eq_true rfl) ?_
  unfold f_X2_manyOtherThen at h
  refine w_iconst (v := 0) dX2_manyOtherThen_0 (by decide) ?_
  refine w_istore_n dX2_manyOtherThen_1 rfl (by decide) rfl ?_
  refine w_iconst (v := 0) dX2_manyOtherThen_2 (by decide) ?_
  refine w_istore_n dX2_manyOtherThen_3 rfl (by decide) rfl ?_
  refine w_sub [2, 1, 0] rfl ?_
  exact l_X2_manyOtherThen_4 aN _ _ _ _ h
theorem dX11_acts_0 : decode cX11_acts 0 = .ok (.iload_n 1, 1) := by decide +kernel
theorem dX11_acts_1 : decode cX11_acts 1 = .ok (.tableswitch 66 0 3 #[31, 40, 49, 58], 31) := by decide +kernel
theorem dX11_acts_32 : decode cX11_acts 32 = .ok (.aload_n 0, 1) := by decide +kernel
theorem dX11_acts_33 : decode cX11_acts 33 = .ok (.getfield 43, 3) := by decide +kernel
theorem dX11_acts_36 : decode cX11_acts 36 = .ok (.iconst 2, 1) := by decide +kernel
theorem dX11_acts_37 : decode cX11_acts 37 = .ok (.invokevirtual 242, 3) := by decide +kernel
theorem dX11_acts_40 : decode cX11_acts 40 = .ok (.ireturn, 1) := by decide +kernel
theorem dX11_acts_41 : decode cX11_acts 41 = .ok (.aload_n 0, 1) := by decide +kernel
theorem dX11_acts_42 : decode cX11_acts 42 = .ok (.getfield 43, 3) := by decide +kernel
theorem dX11_acts_45 : decode cX11_acts 45 = .ok (.iconst 1, 1) := by decide +kernel
theorem dX11_acts_46 : decode cX11_acts 46 = .ok (.invokevirtual 242, 3) := by decide +kernel
theorem dX11_acts_49 : decode cX11_acts 49 = .ok (.ireturn, 1) := by decide +kernel
theorem dX11_acts_50 : decode cX11_acts 50 = .ok (.aload_n 0, 1) := by decide +kernel
theorem dX11_acts_51 : decode cX11_acts 51 = .ok (.getfield 43, 3) := by decide +kernel
theorem dX11_acts_54 : decode cX11_acts 54 = .ok (.iconst 0, 1) := by decide +kernel
theorem dX11_acts_55 : decode cX11_acts 55 = .ok (.invokevirtual 242, 3) := by decide +kernel
theorem dX11_acts_58 : decode cX11_acts 58 = .ok (.ireturn, 1) := by decide +kernel
theorem dX11_acts_59 : decode cX11_acts 59 = .ok (.aload_n 0, 1) := by decide +kernel
theorem dX11_acts_60 : decode cX11_acts 60 = .ok (.getfield 43, 3) := by decide +kernel
theorem dX11_acts_63 : decode cX11_acts 63 = .ok (.invokevirtual 245, 3) := by decide +kernel
theorem dX11_acts_66 : decode cX11_acts 66 = .ok (.ireturn, 1) := by decide +kernel
theorem dX11_acts_67 : decode cX11_acts 67 = .ok (.ldc 93, 2) := by decide +kernel
theorem dX11_acts_69 : decode cX11_acts 69 = .ok (.ireturn, 1) := by decide +kernel
theorem kd_X11_acts : aKd m_X11_acts 1 := ⟨wd_37_17, wd_1_2, ⟨by decide +kernel, by decide +kernel, by decide +kernel⟩⟩
set_option maxRecDepth 100000 in
set_option maxHeartbeats 4000000 in
theorem c_X11_acts (p1 : Int32) (σ : aSt) (o : Int32 × aSt) (h : f_X11_acts p1 σ = some o) : AM true m_X11_acts [va_rf (some (0)), .int (p1)] σ (some (.int o.1)) o.2 := by
  refine AM_of2 (lv := [(0, va_rf (some (0))), (1, Value.int (p1))]) (by decide +kernel) rfl (Nat.le_of_ble_eq_true rfl) ?_
  unfold f_X11_acts at h
  refine w_iload_n 1 dX11_acts_0 rfl rfl ?_
  replace h := e_ite h; rcases h with ⟨c1, h⟩ | ⟨c1, h⟩
  · subst c1
    refine w_tabIn (off := 31) 32 dX11_acts_1 (by decide) (by decide) (by decide +kernel) (by decide) ?_
    refine w_aload_n 0 ((some (0))) dX11_acts_32 rfl rfl ?_
    refine w_get (v := va_rf (some 11)) dX11_acts_33 fl_RX11_43 ⟨rfl, Or.inr ⟨rfl, by decide⟩⟩ (aFv_k rfl) ?_
    refine w_iconst (v := 2) dX11_acts_36 (by decide) ?_
    replace h := e_bind h; obtain ⟨q2, e3, h⟩ := h
    refine w_callV1 (M2 := m_X2_manyWith) (av := [.int (2)]) (ci := 2) (c_X2_manyWith _ _ _ e3) dX11_acts_37 kd_X2_manyWith wd_37_18 wd_37_19 wd_37_20 rfl rfl ⟨rfl, Or.inr ⟨rfl, by decide⟩⟩ rfl ⟨Nat.le_of_ble_eq_true rfl, Nat.le_of_ble_eq_true rfl, Nat.le_of_ble_eq_true rfl, Nat.le_of_ble_eq_true rfl⟩ (Nat.le_of_ble_eq_true rfl) ?_
    obtain rfl := Option.some.inj h
    exact w_ireturn dX11_acts_40 rfl (Nat.le_of_ble_eq_true rfl) (Nat.le_of_ble_eq_true rfl)
  · replace h := e_ite h; rcases h with ⟨c4, h⟩ | ⟨c4, h⟩
    · subst c4
      refine w_tabIn (off := 40) 41 dX11_acts_1 (by decide) (by decide) (by decide +kernel) (by decide) ?_
      refine w_aload_n 0 ((some (0))) dX11_acts_41 rfl rfl ?_
      refine w_get (v := va_rf (some 11)) dX11_acts_42 fl_RX11_43 ⟨rfl, Or.inr ⟨rfl, by decide⟩⟩ (aFv_k rfl) ?_
      refine w_iconst (v := 1) dX11_acts_45 (by decide) ?_
      replace h := e_bind h; obtain ⟨q5, e6, h⟩ := h
      refine w_callV1 (M2 := m_X2_manyWith) (av := [.int (1)]) (ci := 2) (c_X2_manyWith _ _ _ e6) dX11_acts_46 kd_X2_manyWith wd_37_18 wd_37_19 wd_37_20 rfl rfl ⟨rfl, Or.inr ⟨rfl, by decide⟩⟩ rfl ⟨Nat.le_of_ble_eq_true rfl, Nat.le_of_ble_eq_true rfl, Nat.le_of_ble_eq_true rfl, Nat.le_of_ble_eq_true rfl⟩ (Nat.le_of_ble_eq_true rfl) ?_
      obtain rfl := Option.some.inj h
      exact w_ireturn dX11_acts_49 rfl (Nat.le_of_ble_eq_true rfl) (Nat.le_of_ble_eq_true rfl)
    · replace h := e_ite h; rcases h with ⟨c7, h⟩ | ⟨c7, h⟩
      · subst c7
        refine w_tabIn (off := 49) 50 dX11_acts_1 (by decide) (by decide) (by decide +kernel) (by decide) ?_
        refine w_aload_n 0 ((some (0))) dX11_acts_50 rfl rfl ?_
        refine w_get (v := va_rf (some 11)) dX11_acts_51 fl_RX11_43 ⟨rfl, Or.inr ⟨rfl, by decide⟩⟩ (aFv_k rfl) ?_
        refine w_iconst (v := 0) dX11_acts_54 (by decide) ?_
        replace h := e_bind h; obtain ⟨q8, e9, h⟩ := h
        refine w_callV1 (M2 := m_X2_manyWith) (av := [.int (0)]) (ci := 2) (c_X2_manyWith _ _ _ e9) dX11_acts_55 kd_X2_manyWith wd_37_18 wd_37_19 wd_37_20 rfl rfl ⟨rfl, Or.inr ⟨rfl, by decide⟩⟩ rfl ⟨Nat.le_of_ble_eq_true rfl, Nat.le_of_ble_eq_true rfl, Nat.le_of_ble_eq_true rfl, Nat.le_of_ble_eq_true rfl⟩ (Nat.le_of_ble_eq_true rfl) ?_
        obtain rfl := Option.some.inj h
        exact w_ireturn dX11_acts_58 rfl (Nat.le_of_ble_eq_true rfl) (Nat.le_of_ble_eq_true rfl)
      · replace h := e_ite h; rcases h with ⟨c10, h⟩ | ⟨c10, h⟩
        · subst c10
          refine w_tabIn (off := 58) 59 dX11_acts_1 (by decide) (by decide) (by decide +kernel) (by decide) ?_
          refine w_aload_n 0 ((some (0))) dX11_acts_59 rfl rfl ?_
          refine w_get (v := va_rf (some 11)) dX11_acts_60 fl_RX11_43 ⟨rfl, Or.inr ⟨rfl, by decide⟩⟩ (aFv_k rfl) ?_
          replace h := e_bind h; obtain ⟨q11, e12, h⟩ := h
          refine w_callV1 (M2 := m_X2_manyOtherThen) (av := []) (ci := 2) (c_X2_manyOtherThen  _ _ e12) dX11_acts_63 kd_X2_manyOtherThen wd_38_0 wd_38_1 wd_38_2 rfl rfl ⟨rfl, Or.inr ⟨rfl, by decide⟩⟩ rfl ⟨Nat.le_of_ble_eq_true rfl, Nat.le_of_ble_eq_true rfl, Nat.le_of_ble_eq_true rfl, Nat.le_of_ble_eq_true rfl⟩ (Nat.le_of_ble_eq_true rfl) ?_
          obtain rfl := Option.some.inj h
          exact w_ireturn dX11_acts_66 rfl (Nat.le_of_ble_eq_true rfl) (Nat.le_of_ble_eq_true rfl)
        · refine w_tabOut 67 dX11_acts_1 (by have zc1 := lv_neT (a := 0) c1 (by decide); have zc4 := lv_neT (a := 1) c4 (by decide); have zc7 := lv_neT (a := 2) c7 (by decide); have zc10 := lv_neT (a := 3) c10 (by decide); omega) (by decide) ?_
          refine w_ldc (v := (-1000001)) dX11_acts_67 wd_9_18 ?_
          obtain rfl := Option.some.inj h
          exact w_ireturn dX11_acts_69 rfl (Nat.le_of_ble_eq_true rfl) (Nat.le_of_ble_eq_true rfl)
theorem dX11_verdict_0 : decode cX11_verdict 0 = .ok (.aload_n 0, 1) := by decide +kernel
theorem dX11_verdict_1 : decode cX11_verdict 1 = .ok (.getfield 18, 3) := by decide +kernel
theorem dX11_verdict_4 : decode cX11_verdict 4 = .ok (.iload_n 1, 1) := by decide +kernel
theorem dX11_verdict_5 : decode cX11_verdict 5 = .ok (.invokevirtual 141, 3) := by decide +kernel
theorem dX11_verdict_8 : decode cX11_verdict 8 = .ok (.astore_n 3, 1) := by decide +kernel
theorem dX11_verdict_9 : decode cX11_verdict 9 = .ok (.aload_n 3, 1) := by decide +kernel
theorem dX11_verdict_10 : decode cX11_verdict 10 = .ok (.ifnull 12, 3) := by decide +kernel
theorem dX11_verdict_13 : decode cX11_verdict 13 = .ok (.iload_n 2, 1) := by decide +kernel
theorem dX11_verdict_14 : decode cX11_verdict 14 = .ok (.iconst 0, 1) := by decide +kernel
theorem dX11_verdict_15 : decode cX11_verdict 15 = .ok (.iconst 1, 1) := by decide +kernel
theorem dX11_verdict_16 : decode cX11_verdict 16 = .ok (.invokestatic 89, 3) := by decide +kernel
theorem dX11_verdict_19 : decode cX11_verdict 19 = .ok (.ifCond .ne 6, 3) := by decide +kernel
theorem dX11_verdict_22 : decode cX11_verdict 22 = .ok (.ldc 93, 2) := by decide +kernel
theorem dX11_verdict_24 : decode cX11_verdict 24 = .ok (.ireturn, 1) := by decide +kernel
theorem dX11_verdict_25 : decode cX11_verdict 25 = .ok (.aload_n 3, 1) := by decide +kernel
theorem dX11_verdict_26 : decode cX11_verdict 26 = .ok (.getfield 165, 3) := by decide +kernel
theorem dX11_verdict_29 : decode cX11_verdict 29 = .ok (.istore 4, 2) := by decide +kernel
theorem dX11_verdict_31 : decode cX11_verdict 31 = .ok (.aload_n 3, 1) := by decide +kernel
theorem dX11_verdict_32 : decode cX11_verdict 32 = .ok (.iload_n 2, 1) := by decide +kernel
theorem dX11_verdict_33 : decode cX11_verdict 33 = .ok (.putfield 165, 3) := by decide +kernel
theorem dX11_verdict_36 : decode cX11_verdict 36 = .ok (.iload 4, 2) := by decide +kernel
theorem dX11_verdict_38 : decode cX11_verdict 38 = .ok (.ireturn, 1) := by decide +kernel
theorem kd_X11_verdict : aKd m_X11_verdict 2 := ⟨wd_38_15, wd_1_2, ⟨by decide +kernel, by decide +kernel, by decide +kernel⟩⟩
set_option maxRecDepth 100000 in
set_option maxHeartbeats 4000000 in
theorem l_X11_verdict_22   (σ : aSt) (o : Int32 × aSt) (h : f_X11_verdict_22   σ = some o) : AW true m_X11_verdict 22 [] [] σ 0 0 (some (.int o.1)) o.2 := by
  unfold f_X11_verdict_22 at h
  refine w_ldc (v := (-1000001)) dX11_verdict_22 wd_9_18 ?_
  obtain rfl := Option.some.inj h
  exact w_ireturn dX11_verdict_24 rfl (Nat.le_of_ble_eq_true rfl) (Nat.le_of_ble_eq_true rfl)
set_option maxRecDepth 100000 in
set_option maxHeartbeats 4000000 in
theorem c_X11_verdict (p1 : Int32) (p2 : Int32) (σ : aSt) (o : Int32 × aSt) (h : f_X11_verdict p1 p2 σ = some o) : AM true m_X11_verdict [va_rf (some (0)), .int (p1), .int (p2)] σ (some (.int o.1)) o.2 := by
  refine AM_of2 (lv := [(0, va_rf (some (0))), (1, Value.int (p1)), (2, Value.int (p2))]) (by decide +kernel) rfl (Nat.le_of_ble_eq_true rfl) ?_
  unfold f_X11_verdict at h
  refine w_aload_n 0 ((some (0))) dX11_verdict_0 rfl rfl ?_
  refine w_get (v := va_rf (some 2)) dX11_verdict_1 fl_RX11_18 ⟨rfl, Or.inr ⟨rfl, by decide⟩⟩ (aFv_k rfl) ?_
  refine w_iload_n 1 dX11_verdict_4 rfl rfl ?_
  replace h := e_bind h; obtain ⟨q1, e2, h⟩ := h
  refine w_callV1 (M2 := m_X3_find) (av := [.int (p1)]) (ci := 3) (c_X3_find _ _ _ e2) dX11_verdict_5 kd_X3_find wd_13_20 wd_13_21 wd_13_22 rfl rfl ⟨rfl, Or.inr ⟨rfl, by decide⟩⟩ rfl ⟨Nat.le_of_ble_eq_true rfl, Nat.le_of_ble_eq_true rfl, Nat.le_of_ble_eq_true rfl, Nat.le_of_ble_eq_true rfl⟩ (Nat.le_of_ble_eq_true rfl) ?_
  refine w_astore_n dX11_verdict_8 rfl (by decide) rfl ?_
  refine w_aload_n 0 (q1.1) dX11_verdict_9 rfl rfl ?_
  replace h := e_oC h; rcases h with ⟨r8, h⟩ | ⟨a3, r8, h⟩
  · rw [r8]
    refine w_ifnull0 22 dX11_verdict_10 (by decide) ?_
    refine w_sub [] rfl ?_
    exact l_X11_verdict_22 _ _ h
  · rw [r8]
    refine w_ifnull1 dX11_verdict_10 ?_
    refine w_iload_n 3 dX11_verdict_13 rfl rfl ?_
    refine w_iconst (v := 0) dX11_verdict_14 (by decide) ?_
    refine w_iconst (v := 1) dX11_verdict_15 (by decide) ?_
    replace h := e_bind h; obtain ⟨q4, e5, h⟩ := h
    refine w_callS1 (M2 := m_X11_within) (av := [.int (p2), .int (0), .int (1)]) (c_X11_within _ _ _ _ _ e5) dX11_verdict_16 kd_X11_within wd_9_22 wd_9_23 rfl rfl ⟨Nat.le_of_ble_eq_true rfl, Nat.le_of_ble_eq_true rfl, Nat.le_of_ble_eq_true rfl, Nat.le_of_ble_eq_true rfl⟩ (Nat.le_of_ble_eq_true rfl) ?_
    refine w_if_ne 25 dX11_verdict_19 (by decide) (fun c6 => ?_) (fun c6 => ?_)
    · replace h := e_f c6 h
      refine w_aload_n 0 ((some (a3))) dX11_verdict_25 rfl rfl ?_
      replace h := e_grd h; obtain ⟨g7, h⟩ := h
      refine w_get dX11_verdict_26 fl_RX11_165 ⟨g7.1, Or.inl g7.2⟩ (aFv_i rfl) ?_
      refine w_istore dX11_verdict_29 (by decide) rfl ?_
      refine w_aload_n 1 ((some (a3))) dX11_verdict_31 rfl rfl ?_
      refine w_iload_n 4 dX11_verdict_32 rfl rfl ?_
      refine w_putI dX11_verdict_33 fl_RX11_165 (Or.inl rfl) rfl ⟨g7.1, Or.inl g7.2⟩ ?_
      refine w_iload 0 dX11_verdict_36 rfl ?_
      obtain rfl := Option.some.inj h
      exact w_ireturn dX11_verdict_38 rfl (Nat.le_of_ble_eq_true rfl) (Nat.le_of_ble_eq_true rfl)
    · replace h := e_t c6 h
      refine w_sub [] rfl ?_
      exact l_X11_verdict_22 _ _ h
