theorem dX5_priceOfSet_0 : decode cX5_priceOfSet 0 = .ok (.lconst 0, 1) := by decide +kernel
theorem dX5_priceOfSet_1 : decode cX5_priceOfSet 1 = .ok (.lstore_n 3, 1) := by decide +kernel
theorem dX5_priceOfSet_2 : decode cX5_priceOfSet 2 = .ok (.iconst 0, 1) := by decide +kernel
theorem dX5_priceOfSet_3 : decode cX5_priceOfSet 3 = .ok (.istore 5, 2) := by decide +kernel
theorem dX5_priceOfSet_5 : decode cX5_priceOfSet 5 = .ok (.iload 5, 2) := by decide +kernel
theorem dX5_priceOfSet_7 : decode cX5_priceOfSet 7 = .ok (.aload_n 0, 1) := by decide +kernel
theorem dX5_priceOfSet_8 : decode cX5_priceOfSet 8 = .ok (.getfield 49, 3) := by decide +kernel
theorem dX5_priceOfSet_11 : decode cX5_priceOfSet 11 = .ok (.getfield 74, 3) := by decide +kernel
theorem dX5_priceOfSet_14 : decode cX5_priceOfSet 14 = .ok (.if_icmp .ge 118, 3) := by decide +kernel
theorem dX5_priceOfSet_17 : decode cX5_priceOfSet 17 = .ok (.aload_n 0, 1) := by decide +kernel
theorem dX5_priceOfSet_18 : decode cX5_priceOfSet 18 = .ok (.getfield 49, 3) := by decide +kernel
theorem dX5_priceOfSet_21 : decode cX5_priceOfSet 21 = .ok (.iload 5, 2) := by decide +kernel
theorem dX5_priceOfSet_23 : decode cX5_priceOfSet 23 = .ok (.invokevirtual 79, 3) := by decide +kernel
theorem dX5_priceOfSet_26 : decode cX5_priceOfSet 26 = .ok (.astore 6, 2) := by decide +kernel
theorem dX5_priceOfSet_28 : decode cX5_priceOfSet 28 = .ok (.aload 6, 2) := by decide +kernel
theorem dX5_priceOfSet_30 : decode cX5_priceOfSet 30 = .ok (.ifnull 96, 3) := by decide +kernel
theorem dX5_priceOfSet_33 : decode cX5_priceOfSet 33 = .ok (.aload 6, 2) := by decide +kernel
theorem dX5_priceOfSet_35 : decode cX5_priceOfSet 35 = .ok (.getfield 83, 3) := by decide +kernel
theorem dX5_priceOfSet_38 : decode cX5_priceOfSet 38 = .ok (.ldc 88, 2) := by decide +kernel
theorem dX5_priceOfSet_40 : decode cX5_priceOfSet 40 = .ok (.if_icmp .eq 86, 3) := by decide +kernel
theorem dX5_priceOfSet_43 : decode cX5_priceOfSet 43 = .ok (.aload 6, 2) := by decide +kernel
theorem dX5_priceOfSet_45 : decode cX5_priceOfSet 45 = .ok (.getfield 108, 3) := by decide +kernel
theorem dX5_priceOfSet_48 : decode cX5_priceOfSet 48 = .ok (.iconst 2, 1) := by decide +kernel
theorem dX5_priceOfSet_49 : decode cX5_priceOfSet 49 = .ok (.irem, 1) := by decide +kernel
theorem dX5_priceOfSet_50 : decode cX5_priceOfSet 50 = .ok (.iload_n 2, 1) := by decide +kernel
theorem dX5_priceOfSet_51 : decode cX5_priceOfSet 51 = .ok (.if_icmp .eq 6, 3) := by decide +kernel
theorem dX5_priceOfSet_54 : decode cX5_priceOfSet 54 = .ok (.goto 72, 3) := by decide +kernel
theorem dX5_priceOfSet_57 : decode cX5_priceOfSet 57 = .ok (.aload_n 0, 1) := by decide +kernel
theorem dX5_priceOfSet_58 : decode cX5_priceOfSet 58 = .ok (.getfield 53, 3) := by decide +kernel
theorem dX5_priceOfSet_61 : decode cX5_priceOfSet 61 = .ok (.aload 6, 2) := by decide +kernel
theorem dX5_priceOfSet_63 : decode cX5_priceOfSet 63 = .ok (.iconst 0, 1) := by decide +kernel
theorem dX5_priceOfSet_64 : decode cX5_priceOfSet 64 = .ok (.invokevirtual 111, 3) := by decide +kernel
theorem dX5_priceOfSet_67 : decode cX5_priceOfSet 67 = .ok (.iload_n 1, 1) := by decide +kernel
theorem dX5_priceOfSet_68 : decode cX5_priceOfSet 68 = .ok (.iand, 1) := by decide +kernel
theorem dX5_priceOfSet_69 : decode cX5_priceOfSet 69 = .ok (.ifCond .eq 7, 3) := by decide +kernel
theorem dX5_priceOfSet_72 : decode cX5_priceOfSet 72 = .ok (.iconst 1, 1) := by decide +kernel
theorem dX5_priceOfSet_73 : decode cX5_priceOfSet 73 = .ok (.goto 4, 3) := by decide +kernel
theorem dX5_priceOfSet_76 : decode cX5_priceOfSet 76 = .ok (.iconst 0, 1) := by decide +kernel
theorem dX5_priceOfSet_77 : decode cX5_priceOfSet 77 = .ok (.istore 7, 2) := by decide +kernel
theorem dX5_priceOfSet_79 : decode cX5_priceOfSet 79 = .ok (.aload 6, 2) := by decide +kernel
theorem dX5_priceOfSet_81 : decode cX5_priceOfSet 81 = .ok (.getfield 83, 3) := by decide +kernel
theorem dX5_priceOfSet_84 : decode cX5_priceOfSet 84 = .ok (.iconst 1, 1) := by decide +kernel
theorem dX5_priceOfSet_85 : decode cX5_priceOfSet 85 = .ok (.if_icmp .ne 20, 3) := by decide +kernel
theorem dX5_priceOfSet_88 : decode cX5_priceOfSet 88 = .ok (.iload 7, 2) := by decide +kernel
theorem dX5_priceOfSet_90 : decode cX5_priceOfSet 90 = .ok (.ifCond .ne 15, 3) := by decide +kernel
theorem dX5_priceOfSet_93 : decode cX5_priceOfSet 93 = .ok (.lload_n 3, 1) := by decide +kernel
theorem dX5_priceOfSet_94 : decode cX5_priceOfSet 94 = .ok (.aload 6, 2) := by decide +kernel
theorem dX5_priceOfSet_96 : decode cX5_priceOfSet 96 = .ok (.getfield 95, 3) := by decide +kernel
theorem dX5_priceOfSet_99 : decode cX5_priceOfSet 99 = .ok (.i2l, 1) := by decide +kernel
theorem dX5_priceOfSet_100 : decode cX5_priceOfSet 100 = .ok (.ladd, 1) := by decide +kernel
theorem dX5_priceOfSet_101 : decode cX5_priceOfSet 101 = .ok (.lstore_n 3, 1) := by decide +kernel
theorem dX5_priceOfSet_102 : decode cX5_priceOfSet 102 = .ok (.goto 24, 3) := by decide +kernel
theorem dX5_priceOfSet_105 : decode cX5_priceOfSet 105 = .ok (.aload 6, 2) := by decide +kernel
theorem dX5_priceOfSet_107 : decode cX5_priceOfSet 107 = .ok (.getfield 83, 3) := by decide +kernel
theorem dX5_priceOfSet_110 : decode cX5_priceOfSet 110 = .ok (.ifCond .ne 16, 3) := by decide +kernel
theorem dX5_priceOfSet_113 : decode cX5_priceOfSet 113 = .ok (.iload 7, 2) := by decide +kernel
theorem dX5_priceOfSet_115 : decode cX5_priceOfSet 115 = .ok (.ifCond .eq 11, 3) := by decide +kernel
theorem dX5_priceOfSet_118 : decode cX5_priceOfSet 118 = .ok (.lload_n 3, 1) := by decide +kernel
theorem dX5_priceOfSet_119 : decode cX5_priceOfSet 119 = .ok (.aload_n 0, 1) := by decide +kernel
theorem dX5_priceOfSet_120 : decode cX5_priceOfSet 120 = .ok (.getfield 9, 3) := by decide +kernel
theorem dX5_priceOfSet_123 : decode cX5_priceOfSet 123 = .ok (.i2l, 1) := by decide +kernel
theorem dX5_priceOfSet_124 : decode cX5_priceOfSet 124 = .ok (.ladd, 1) := by decide +kernel
theorem dX5_priceOfSet_125 : decode cX5_priceOfSet 125 = .ok (.lstore_n 3, 1) := by decide +kernel
theorem dX5_priceOfSet_126 : decode cX5_priceOfSet 126 = .ok (.iinc 5 1, 3) := by decide +kernel
theorem dX5_priceOfSet_129 : decode cX5_priceOfSet 129 = .ok (.goto (-124), 3) := by decide +kernel
theorem dX5_priceOfSet_132 : decode cX5_priceOfSet 132 = .ok (.lload_n 3, 1) := by decide +kernel
theorem dX5_priceOfSet_133 : decode cX5_priceOfSet 133 = .ok (.lreturn, 1) := by decide +kernel
theorem kd_X5_priceOfSet : aKd m_X5_priceOfSet 2 := ⟨wd_44_4, wd_2_9, ⟨by decide +kernel, by decide +kernel, by decide +kernel⟩⟩
set_option maxRecDepth 100000 in
set_option maxHeartbeats 4000000 in
theorem l_X5_priceOfSet_126 (rec5 : Int32 → Int32 → Int64 → Int32 → aSt → Option (Int64 × aSt)) (hrec5 : ∀ (x1 : Int32) (x2 : Int32) (x3 : Int64) (x5 : Int32) (σ : aSt) (o : Int64 × aSt), rec5 x1 x2 x3 x5 σ = some o → AW true m_X5_priceOfSet 5 [(0, va_rf (some (26))), (1, Value.int (x1)), (2, Value.int (x2)), (3, Value.long (x3)), (5, Value.int (x5))] [] σ 0 0 (some (.long o.1)) o.2) (x1 : Int32) (x2 : Int32) (x3 : Int64) (x5 : Int32) (σ : aSt) (o : Int64 × aSt) (h : f_X5_priceOfSet_126 rec5 x1 x2 x3 x5 σ = some o) : AW true m_X5_priceOfSet 126 [(0, va_rf (some (26))), (1, Value.int (x1)), (2, Value.int (x2)), (3, Value.long (x3)), (5, Value.int (x5))] [] σ 0 0 (some (.long o.1)) o.2 := by
  unfold f_X5_priceOfSet_126 at h
  refine w_iinc (q := 4) (v := x5 + 1) dX5_priceOfSet_126 rfl rfl (by decide) rfl ?_
  refine w_goto 5 dX5_priceOfSet_129 (by decide) ?_
  refine w_sub [1, 2, 3, 4, 0] rfl ?_
  exact hrec5 _ _ _ _ _ _ h
set_option maxRecDepth 100000 in
set_option maxHeartbeats 4000000 in
theorem l_X5_priceOfSet_105 (rec5 : Int32 → Int32 → Int64 → Int32 → aSt → Option (Int64 × aSt)) (hrec5 : ∀ (x1 : Int32) (x2 : Int32) (x3 : Int64) (x5 : Int32) (σ : aSt) (o : Int64 × aSt), rec5 x1 x2 x3 x5 σ = some o → AW true m_X5_priceOfSet 5 [(0, va_rf (some (26))), (1, Value.int (x1)), (2, Value.int (x2)), (3, Value.long (x3)), (5, Value.int (x5))] [] σ 0 0 (some (.long o.1)) o.2) (x1 : Int32) (x2 : Int32) (x3 : Int64) (x5 : Int32) (x6 : Nat) (x7 : Int32) (σ : aSt) (o : Int64 × aSt) (h : f_X5_priceOfSet_105 rec5 x1 x2 x3 x5 x6 x7 σ = some o) : AW true m_X5_priceOfSet 105 [(0, va_rf (some (26))), (1, Value.int (x1)), (2, Value.int (x2)), (3, Value.long (x3)), (5, Value.int (x5)), (6, va_rf (some (x6))), (7, Value.int (x7))] [] σ 0 0 (some (.long o.1)) o.2 := by
  unfold f_X5_priceOfSet_105 at h
  refine w_aload 5 ((some (x6))) dX5_priceOfSet_105 rfl ?_
  replace h := e_grd h; obtain ⟨g1, h⟩ := h
  refine w_get dX5_priceOfSet_107 fl_RX5_83 ⟨g1.1, Or.inl g1.2⟩ (aFv_i rfl) ?_
  refine w_if_ne 126 dX5_priceOfSet_110 (by decide) (fun c2 => ?_) (fun c2 => ?_)
  · replace h := e_f c2 h
    refine w_sub [0, 1, 2, 3, 4] rfl ?_
    exact l_X5_priceOfSet_126 rec5 hrec5 _ _ _ _ _ _ h
  · replace h := e_t c2 h
    refine w_iload 6 dX5_priceOfSet_113 rfl ?_
    refine w_if_eq 126 dX5_priceOfSet_115 (by decide) (fun c3 => ?_) (fun c3 => ?_)
    · replace h := e_t c3 h
      refine w_sub [0, 1, 2, 3, 4] rfl ?_
      exact l_X5_priceOfSet_126 rec5 hrec5 _ _ _ _ _ _ h
    · replace h := e_f c3 h
      refine w_lload_n 3 dX5_priceOfSet_118 rfl rfl ?_
      refine w_aload_n 0 ((some (26))) dX5_priceOfSet_119 rfl rfl ?_
      refine w_get dX5_priceOfSet_120 fl_RX5_9 ⟨rfl, Or.inr ⟨rfl, by decide⟩⟩ (aFv_i rfl) ?_
      refine w_i2l dX5_priceOfSet_123 ?_
      refine w_ladd dX5_priceOfSet_124 ?_
      refine w_lstore_n dX5_priceOfSet_125 rfl (by decide) rfl ?_
      refine w_sub [1, 2, 3, 0, 4] rfl ?_
      exact l_X5_priceOfSet_126 rec5 hrec5 _ _ _ _ _ _ h
set_option maxRecDepth 100000 in
set_option maxHeartbeats 4000000 in
theorem l_X5_priceOfSet_77 (rec5 : Int32 → Int32 → Int64 → Int32 → aSt → Option (Int64 × aSt)) (hrec5 : ∀ (x1 : Int32) (x2 : Int32) (x3 : Int64) (x5 : Int32) (σ : aSt) (o : Int64 × aSt), rec5 x1 x2 x3 x5 σ = some o → AW true m_X5_priceOfSet 5 [(0, va_rf (some (26))), (1, Value.int (x1)), (2, Value.int (x2)), (3, Value.long (x3)), (5, Value.int (x5))] [] σ 0 0 (some (.long o.1)) o.2) (x1 : Int32) (x2 : Int32) (x3 : Int64) (x5 : Int32) (x6 : Nat) (t0 : Int32) (σ : aSt) (o : Int64 × aSt) (h : f_X5_priceOfSet_77 rec5 x1 x2 x3 x5 x6 t0 σ = some o) : AW true m_X5_priceOfSet 77 [(0, va_rf (some (26))), (1, Value.int (x1)), (2, Value.int (x2)), (3, Value.long (x3)), (5, Value.int (x5)), (6, va_rf (some (x6)))] [.int (t0)] σ 0 0 (some (.long o.1)) o.2 := by
  unfold f_X5_priceOfSet_77 at h
  refine w_istore dX5_priceOfSet_77 (by decide) rfl ?_
  refine w_aload 6 ((some (x6))) dX5_priceOfSet_79 rfl ?_
  replace h := e_grd h; obtain ⟨g4, h⟩ := h
  refine w_get dX5_priceOfSet_81 fl_RX5_83 ⟨g4.1, Or.inl g4.2⟩ (aFv_i rfl) ?_
  refine w_iconst (v := 1) dX5_priceOfSet_84 (by decide) ?_
  refine w_icmp_ne 105 dX5_priceOfSet_85 (by decide) (fun c5 => ?_) (fun c5 => ?_)
  · replace h := e_f c5 h
    refine w_sub [1, 2, 3, 4, 5, 6, 0] rfl ?_
    exact l_X5_priceOfSet_105 rec5 hrec5 _ _ _ _ _ _ _ _ h
  · replace h := e_t c5 h
    refine w_iload 0 dX5_priceOfSet_88 rfl ?_
    refine w_if_ne 105 dX5_priceOfSet_90 (by decide) (fun c6 => ?_) (fun c6 => ?_)
    · replace h := e_f c6 h
      refine w_sub [1, 2, 3, 4, 5, 6, 0] rfl ?_
      exact l_X5_priceOfSet_105 rec5 hrec5 _ _ _ _ _ _ _ _ h
    · replace h := e_t c6 h
      refine w_lload_n 4 dX5_priceOfSet_93 rfl rfl ?_
      refine w_aload 6 ((some (x6))) dX5_priceOfSet_94 rfl ?_
      refine w_get dX5_priceOfSet_96 fl_RX5_95 ⟨g4.1, Or.inl g4.2⟩ (aFv_i rfl) ?_
      refine w_i2l dX5_priceOfSet_99 ?_
      refine w_ladd dX5_priceOfSet_100 ?_
      refine w_lstore_n dX5_priceOfSet_101 rfl (by decide) rfl ?_
      refine w_goto 126 dX5_priceOfSet_102 (by decide) ?_
      refine w_sub [2, 3, 4, 0, 5] rfl ?_
      exact l_X5_priceOfSet_126 rec5 hrec5 _ _ _ _ _ _ h
set_option maxRecDepth 100000 in
set_option maxHeartbeats 4000000 in
theorem l_X5_priceOfSet_5_b (rec5 : Int32 → Int32 → Int64 → Int32 → aSt → Option (Int64 × aSt)) (hrec5 : ∀ (x1 : Int32) (x2 : Int32) (x3 : Int64) (x5 : Int32) (σ : aSt) (o : Int64 × aSt), rec5 x1 x2 x3 x5 σ = some o → AW true m_X5_priceOfSet 5 [(0, va_rf (some (26))), (1, Value.int (x1)), (2, Value.int (x2)), (3, Value.long (x3)), (5, Value.int (x5))] [] σ 0 0 (some (.long o.1)) o.2) (x1 : Int32) (x2 : Int32) (x3 : Int64) (x5 : Int32) (σ : aSt) (o : Int64 × aSt) (h : f_X5_priceOfSet_5_b rec5 x1 x2 x3 x5 σ = some o) : AW true m_X5_priceOfSet 5 [(0, va_rf (some (26))), (1, Value.int (x1)), (2, Value.int (x2)), (3, Value.long (x3)), (5, Value.int (x5))] [] σ 0 0 (some (.long o.1)) o.2 := by
  unfold f_X5_priceOfSet_5_b at h
  refine w_iload 4 dX5_priceOfSet_5 rfl ?_
  refine w_aload_n 0 ((some (26))) dX5_priceOfSet_7 rfl rfl ?_
  refine w_get (v := va_rf (some 2)) dX5_priceOfSet_8 fl_RX5_49 ⟨rfl, Or.inr ⟨rfl, by decide⟩⟩ (aFv_k rfl) ?_
  refine w_get dX5_priceOfSet_11 fl_RX5_74 ⟨rfl, Or.inr ⟨rfl, by decide⟩⟩ (aFv_i rfl) ?_
  refine w_icmp_ge 132 dX5_priceOfSet_14 (by decide) (fun c7 => ?_) (fun c7 => ?_)
  · replace h := e_t c7 h
    refine w_lload_n 3 dX5_priceOfSet_132 rfl rfl ?_
    obtain rfl := Option.some.inj h
    exact w_lreturn dX5_priceOfSet_133 rfl (Nat.le_of_ble_eq_true rfl) (Nat.le_of_ble_eq_true rfl)
  · replace h := e_f c7 h
    refine w_aload_n 0 ((some (26))) dX5_priceOfSet_17 rfl rfl ?_
    refine w_get (v := va_rf (some 2)) dX5_priceOfSet_18 fl_RX5_49 ⟨rfl, Or.inr ⟨rfl, by decide⟩⟩ (aFv_k rfl) ?_
    refine w_iload 4 dX5_priceOfSet_21 rfl ?_
    replace h := e_bind h; obtain ⟨q8, e9, h⟩ := h
    refine w_callV1 (M2 := m_X3_inOrder) (av := [.int (x5)]) (ci := 3) (c_X3_inOrder _ _ _ e9) dX5_priceOfSet_23 kd_X3_inOrder wd_41_2 wd_17_10 wd_17_11 rfl rfl ⟨rfl, Or.inr ⟨rfl, by decide⟩⟩ rfl ⟨Nat.le_of_ble_eq_true rfl, Nat.le_of_ble_eq_true rfl, Nat.le_of_ble_eq_true rfl, Nat.le_of_ble_eq_true rfl⟩ (Nat.le_of_ble_eq_true rfl) ?_
    refine w_astore dX5_priceOfSet_26 (by decide) rfl ?_
    refine w_aload 0 (q8.1) dX5_priceOfSet_28 rfl ?_
    replace h := e_oC h; rcases h with ⟨r17, h⟩ | ⟨a10, r17, h⟩
    · rw [r17]
      refine w_ifnull0 126 dX5_priceOfSet_30 (by decide) ?_
      refine w_sub [1, 2, 3, 4, 5] rfl ?_
      exact l_X5_priceOfSet_126 rec5 hrec5 _ _ _ _ _ _ h
    · rw [r17]
      refine w_ifnull1 dX5_priceOfSet_30 ?_
      refine w_aload 0 ((some (a10))) dX5_priceOfSet_33 rfl ?_
      replace h := e_grd h; obtain ⟨g11, h⟩ := h
      refine w_get dX5_priceOfSet_35 fl_RX5_83 ⟨g11.1, Or.inl g11.2⟩ (aFv_i rfl) ?_
      refine w_ldc (v := (-1000000)) dX5_priceOfSet_38 wd_41_0 ?_
      refine w_icmp_eq 126 dX5_priceOfSet_40 (by decide) (fun c12 => ?_) (fun c12 => ?_)
      · replace h := e_t c12 h
        refine w_sub [1, 2, 3, 4, 5] rfl ?_
        exact l_X5_priceOfSet_126 rec5 hrec5 _ _ _ _ _ _ h
      · replace h := e_f c12 h
        refine w_aload 0 ((some (a10))) dX5_priceOfSet_43 rfl ?_
        refine w_get dX5_priceOfSet_45 fl_RX5_108 ⟨g11.1, Or.inl g11.2⟩ (aFv_i rfl) ?_
        refine w_iconst (v := 2) dX5_priceOfSet_48 (by decide) ?_
        refine w_irem dX5_priceOfSet_49 (by decide) ?_
        refine w_iload_n 3 dX5_priceOfSet_50 rfl rfl ?_
        refine w_icmp_eq 57 dX5_priceOfSet_51 (by decide) (fun c13 => ?_) (fun c13 => ?_)
        · replace h := e_t c13 h
          refine w_aload_n 1 ((some (26))) dX5_priceOfSet_57 rfl rfl ?_
          refine w_get (v := va_rf (some 11)) dX5_priceOfSet_58 fl_RX5_53 ⟨rfl, Or.inr ⟨rfl, by decide⟩⟩ (aFv_k rfl) ?_
          refine w_aload 0 ((some (a10))) dX5_priceOfSet_61 rfl ?_
          refine w_iconst (v := 0) dX5_priceOfSet_63 (by decide) ?_
          replace h := e_bind h; obtain ⟨q14, e15, h⟩ := h
          refine w_callV1 (M2 := m_X2_heldBy) (av := [va_rf (some (a10)), .int (0)]) (ci := 2) (c_X2_heldBy _ _ _ _ e15) dX5_priceOfSet_64 kd_X2_heldBy wd_43_23 wd_35_2 wd_35_3 rfl rfl ⟨rfl, Or.inr ⟨rfl, by decide⟩⟩ rfl ⟨Nat.le_of_ble_eq_true rfl, Nat.le_of_ble_eq_true rfl, Nat.le_of_ble_eq_true rfl, Nat.le_of_ble_eq_true rfl⟩ (Nat.le_of_ble_eq_true rfl) ?_
          refine w_iload_n 2 dX5_priceOfSet_67 rfl rfl ?_
          refine w_iand dX5_priceOfSet_68 ?_
          refine w_if_eq 76 dX5_priceOfSet_69 (by decide) (fun c16 => ?_) (fun c16 => ?_)
          · replace h := e_t c16 h
            refine w_iconst (v := 0) dX5_priceOfSet_76 (by decide) ?_
            refine w_sub [1, 2, 3, 4, 5, 0] rfl ?_
            exact l_X5_priceOfSet_77 rec5 hrec5 _ _ _ _ _ _ _ _ h
          · replace h := e_f c16 h
            refine w_iconst (v := 1) dX5_priceOfSet_72 (by decide) ?_
            refine w_goto 77 dX5_priceOfSet_73 (by decide) ?_
            refine w_sub [1, 2, 3, 4, 5, 0] rfl ?_
            exact l_X5_priceOfSet_77 rec5 hrec5 _ _ _ _ _ _ _ _ h
        · replace h := e_f c13 h
          refine w_goto 126 dX5_priceOfSet_54 (by decide) ?_
          refine w_sub [1, 2, 3, 4, 5] rfl ?_
          exact l_X5_priceOfSet_126 rec5 hrec5 _ _ _ _ _ _ h
theorem l_X5_priceOfSet_5  : ∀ (n : Nat) (x1 : Int32) (x2 : Int32) (x3 : Int64) (x5 : Int32) (σ : aSt) (o : Int64 × aSt), f_X5_priceOfSet_5  n x1 x2 x3 x5 σ = some o → AW true m_X5_priceOfSet 5 [(0, va_rf (some (26))), (1, Value.int (x1)), (2, Value.int (x2)), (3, Value.long (x3)), (5, Value.int (x5))] [] σ 0 0 (some (.long o.1)) o.2
  | 0 => fun x1 x2 x3 x5 σ o h => by cases h
  | n + 1 => fun x1 x2 x3 x5 σ o h => l_X5_priceOfSet_5_b (f_X5_priceOfSet_5  n) (l_X5_priceOfSet_5  n) x1 x2 x3 x5 σ o h
set_option maxRecDepth 100000 in
set_option maxHeartbeats 4000000 in
theorem c_X5_priceOfSet (p1 : Int32) (p2 : Int32) (σ : aSt) (o : Int64 × aSt) (h : f_X5_priceOfSet p1 p2 σ = some o) : AM true m_X5_priceOfSet [va_rf (some (26)), .int (p1), .int (p2)] σ (some (.long o.1)) o.2 := by
  refine AM_of2 (lv := [(0, va_rf (some (26))), (1, Value.int (p1)), (2, Value.int (p2))]) (by decide +kernel) rfl (Nat.le_of_ble_eq_true rfl) ?_
  unfold f_X5_priceOfSet at h
  refine w_lconst (v := 0) dX5_priceOfSet_0 (by decide) ?_
  refine w_lstore_n dX5_priceOfSet_1 rfl (by decide) rfl ?_
  refine w_iconst (v := 0) dX5_priceOfSet_2 (by decide) ?_
  refine w_istore dX5_priceOfSet_3 (by decide) rfl ?_
  refine w_sub [2, 3, 4, 1, 0] rfl ?_
  exact l_X5_priceOfSet_5 aN _ _ _ _ _ _ h
theorem dX11_learnt_0 : decode cX11_learnt 0 = .ok (.iload_n 1, 1) := by decide +kernel
theorem dX11_learnt_1 : decode cX11_learnt 1 = .ok (.tableswitch 91 0 3 #[31, 40, 56, 72], 31) := by decide +kernel
theorem dX11_learnt_32 : decode cX11_learnt 32 = .ok (.aload_n 0, 1) := by decide +kernel
theorem dX11_learnt_33 : decode cX11_learnt 33 = .ok (.getfield 52, 3) := by decide +kernel
theorem dX11_learnt_36 : decode cX11_learnt 36 = .ok (.invokevirtual 284, 3) := by decide +kernel
theorem dX11_learnt_39 : decode cX11_learnt 39 = .ok (.i2l, 1) := by decide +kernel
theorem dX11_learnt_40 : decode cX11_learnt 40 = .ok (.lreturn, 1) := by decide +kernel
theorem dX11_learnt_41 : decode cX11_learnt 41 = .ok (.aload_n 0, 1) := by decide +kernel
theorem dX11_learnt_42 : decode cX11_learnt 42 = .ok (.getfield 52, 3) := by decide +kernel
theorem dX11_learnt_45 : decode cX11_learnt 45 = .ok (.aload_n 0, 1) := by decide +kernel
theorem dX11_learnt_46 : decode cX11_learnt 46 = .ok (.getfield 52, 3) := by decide +kernel
theorem dX11_learnt_49 : decode cX11_learnt 49 = .ok (.invokevirtual 284, 3) := by decide +kernel
theorem dX11_learnt_52 : decode cX11_learnt 52 = .ok (.iconst 0, 1) := by decide +kernel
theorem dX11_learnt_53 : decode cX11_learnt 53 = .ok (.invokevirtual 287, 3) := by decide +kernel
theorem dX11_learnt_56 : decode cX11_learnt 56 = .ok (.lreturn, 1) := by decide +kernel
theorem dX11_learnt_57 : decode cX11_learnt 57 = .ok (.aload_n 0, 1) := by decide +kernel
theorem dX11_learnt_58 : decode cX11_learnt 58 = .ok (.getfield 52, 3) := by decide +kernel
theorem dX11_learnt_61 : decode cX11_learnt 61 = .ok (.aload_n 0, 1) := by decide +kernel
theorem dX11_learnt_62 : decode cX11_learnt 62 = .ok (.getfield 52, 3) := by decide +kernel
theorem dX11_learnt_65 : decode cX11_learnt 65 = .ok (.invokevirtual 284, 3) := by decide +kernel
theorem dX11_learnt_68 : decode cX11_learnt 68 = .ok (.iconst 1, 1) := by decide +kernel
theorem dX11_learnt_69 : decode cX11_learnt 69 = .ok (.invokevirtual 287, 3) := by decide +kernel
theorem dX11_learnt_72 : decode cX11_learnt 72 = .ok (.lreturn, 1) := by decide +kernel
theorem dX11_learnt_73 : decode cX11_learnt 73 = .ok (.aload_n 0, 1) := by decide +kernel
theorem dX11_learnt_74 : decode cX11_learnt 74 = .ok (.getfield 52, 3) := by decide +kernel
theorem dX11_learnt_77 : decode cX11_learnt 77 = .ok (.aload_n 0, 1) := by decide +kernel
theorem dX11_learnt_78 : decode cX11_learnt 78 = .ok (.getfield 43, 3) := by decide +kernel
theorem dX11_learnt_81 : decode cX11_learnt 81 = .ok (.getfield 214, 3) := by decide +kernel
theorem dX11_learnt_84 : decode cX11_learnt 84 = .ok (.invokevirtual 290, 3) := by decide +kernel
theorem dX11_learnt_87 : decode cX11_learnt 87 = .ok (.iconst 1, 1) := by decide +kernel
theorem dX11_learnt_88 : decode cX11_learnt 88 = .ok (.invokevirtual 287, 3) := by decide +kernel
theorem dX11_learnt_91 : decode cX11_learnt 91 = .ok (.lreturn, 1) := by decide +kernel
theorem dX11_learnt_92 : decode cX11_learnt 92 = .ok (.ldc2_w 265, 3) := by decide +kernel
theorem dX11_learnt_95 : decode cX11_learnt 95 = .ok (.lreturn, 1) := by decide +kernel
theorem kd_X11_learnt : aKd m_X11_learnt 1 := ⟨wd_43_6, wd_1_2, ⟨by decide +kernel, by decide +kernel, by decide +kernel⟩⟩
set_option maxRecDepth 100000 in
set_option maxHeartbeats 4000000 in
theorem c_X11_learnt (p1 : Int32) (σ : aSt) (o : Int64 × aSt) (h : f_X11_learnt p1 σ = some o) : AM true m_X11_learnt [va_rf (some (0)), .int (p1)] σ (some (.long o.1)) o.2 := by
  refine AM_of2 (lv := [(0, va_rf (some (0))), (1, Value.int (p1))]) (by decide +kernel) rfl (Nat.le_of_ble_eq_true rfl) ?_
  unfold f_X11_learnt at h
  refine w_iload_n 1 dX11_learnt_0 rfl rfl ?_
  replace h := e_ite h; rcases h with ⟨c1, h⟩ | ⟨c1, h⟩
  · subst c1
    refine w_tabIn (off := 31) 32 dX11_learnt_1 (by decide) (by decide) (by decide +kernel) (by decide) ?_
    refine w_aload_n 0 ((some (0))) dX11_learnt_32 rfl rfl ?_
    refine w_get (v := va_rf (some 26)) dX11_learnt_33 fl_RX11_52 ⟨rfl, Or.inr ⟨rfl, by decide⟩⟩ (aFv_k rfl) ?_
    replace h := e_bind h; obtain ⟨q2, e3, h⟩ := h
    refine w_callV1 (M2 := m_X5_learn) (av := []) (ci := 5) (c_X5_learn  _ _ e3) dX11_learnt_36 kd_X5_learn wd_43_7 wd_43_8 wd_43_9 rfl rfl ⟨rfl, Or.inr ⟨rfl, by decide⟩⟩ rfl ⟨Nat.le_of_ble_eq_true rfl, Nat.le_of_ble_eq_true rfl, Nat.le_of_ble_eq_true rfl, Nat.le_of_ble_eq_true rfl⟩ (Nat.le_of_ble_eq_true rfl) ?_
    refine w_i2l dX11_learnt_39 ?_
    obtain rfl := Option.some.inj h
    exact w_lreturn dX11_learnt_40 rfl (Nat.le_of_ble_eq_true rfl) (Nat.le_of_ble_eq_true rfl)
  · replace h := e_ite h; rcases h with ⟨c4, h⟩ | ⟨c4, h⟩
    · subst c4
      refine w_tabIn (off := 40) 41 dX11_learnt_1 (by decide) (by decide) (by decide +kernel) (by decide) ?_
      refine w_aload_n 0 ((some (0))) dX11_learnt_41 rfl rfl ?_
      refine w_get (v := va_rf (some 26)) dX11_learnt_42 fl_RX11_52 ⟨rfl, Or.inr ⟨rfl, by decide⟩⟩ (aFv_k rfl) ?_
      refine w_aload_n 0 ((some (0))) dX11_learnt_45 rfl rfl ?_
      refine w_get (v := va_rf (some 26)) dX11_learnt_46 fl_RX11_52 ⟨rfl, Or.inr ⟨rfl, by decide⟩⟩ (aFv_k rfl) ?_
      replace h := e_bind h; obtain ⟨q5, e6, h⟩ := h
      refine w_callV1 (M2 := m_X5_learn) (av := []) (ci := 5) (c_X5_learn  _ _ e6) dX11_learnt_49 kd_X5_learn wd_43_7 wd_43_8 wd_43_9 rfl rfl ⟨rfl, Or.inr ⟨rfl, by decide⟩⟩ rfl ⟨Nat.le_of_ble_eq_true rfl, Nat.le_of_ble_eq_true rfl, Nat.le_of_ble_eq_true rfl, Nat.le_of_ble_eq_true rfl⟩ (Nat.le_of_ble_eq_true rfl) ?_
      refine w_iconst (v := 0) dX11_learnt_52 (by decide) ?_
      replace h := e_bind h; obtain ⟨q7, e8, h⟩ := h
      refine w_callV1 (M2 := m_X5_priceOfSet) (av := [.int (q5.1), .int (0)]) (ci := 5) (c_X5_priceOfSet _ _ _ _ e8) dX11_learnt_53 kd_X5_priceOfSet wd_44_1 wd_44_2 wd_44_3 rfl rfl ⟨rfl, Or.inr ⟨rfl, by decide⟩⟩ rfl ⟨Nat.le_of_ble_eq_true rfl, Nat.le_of_ble_eq_true rfl, Nat.le_of_ble_eq_true rfl, Nat.le_of_ble_eq_true rfl⟩ (Nat.le_of_ble_eq_true rfl) ?_
      obtain rfl := Option.some.inj h
      exact w_lreturn dX11_learnt_56 rfl (Nat.le_of_ble_eq_true rfl) (Nat.le_of_ble_eq_true rfl)
    · replace h := e_ite h; rcases h with ⟨c9, h⟩ | ⟨c9, h⟩
      · subst c9
        refine w_tabIn (off := 56) 57 dX11_learnt_1 (by decide) (by decide) (by decide +kernel) (by decide) ?_
        refine w_aload_n 0 ((some (0))) dX11_learnt_57 rfl rfl ?_
        refine w_get (v := va_rf (some 26)) dX11_learnt_58 fl_RX11_52 ⟨rfl, Or.inr ⟨rfl, by decide⟩⟩ (aFv_k rfl) ?_
        refine w_aload_n 0 ((some (0))) dX11_learnt_61 rfl rfl ?_
        refine w_get (v := va_rf (some 26)) dX11_learnt_62 fl_RX11_52 ⟨rfl, Or.inr ⟨rfl, by decide⟩⟩ (aFv_k rfl) ?_
        replace h := e_bind h; obtain ⟨q10, e11, h⟩ := h
        refine w_callV1 (M2 := m_X5_learn) (av := []) (ci := 5) (c_X5_learn  _ _ e11) dX11_learnt_65 kd_X5_learn wd_43_7 wd_43_8 wd_43_9 rfl rfl ⟨rfl, Or.inr ⟨rfl, by decide⟩⟩ rfl ⟨Nat.le_of_ble_eq_true rfl, Nat.le_of_ble_eq_true rfl, Nat.le_of_ble_eq_true rfl, Nat.le_of_ble_eq_true rfl⟩ (Nat.le_of_ble_eq_true rfl) ?_
        refine w_iconst (v := 1) dX11_learnt_68 (by decide) ?_
        replace h := e_bind h; obtain ⟨q12, e13, h⟩ := h
        refine w_callV1 (M2 := m_X5_priceOfSet) (av := [.int (q10.1), .int (1)]) (ci := 5) (c_X5_priceOfSet _ _ _ _ e13) dX11_learnt_69 kd_X5_priceOfSet wd_44_1 wd_44_2 wd_44_3 rfl rfl ⟨rfl, Or.inr ⟨rfl, by decide⟩⟩ rfl ⟨Nat.le_of_ble_eq_true rfl, Nat.le_of_ble_eq_true rfl, Nat.le_of_ble_eq_true rfl, Nat.le_of_ble_eq_true rfl⟩ (Nat.le_of_ble_eq_true rfl) ?_
        obtain rfl := Option.some.inj h
        exact w_lreturn dX11_learnt_72 rfl (Nat.le_of_ble_eq_true rfl) (Nat.le_of_ble_eq_true rfl)
      · replace h := e_ite h; rcases h with ⟨c14, h⟩ | ⟨c14, h⟩
        · subst c14
          refine w_tabIn (off := 72) 73 dX11_learnt_1 (by decide) (by decide) (by decide +kernel) (by decide) ?_
          refine w_aload_n 0 ((some (0))) dX11_learnt_73 rfl rfl ?_
          refine w_get (v := va_rf (some 26)) dX11_learnt_74 fl_RX11_52 ⟨rfl, Or.inr ⟨rfl, by decide⟩⟩ (aFv_k rfl) ?_
          refine w_aload_n 0 ((some (0))) dX11_learnt_77 rfl rfl ?_
          refine w_get (v := va_rf (some 11)) dX11_learnt_78 fl_RX11_43 ⟨rfl, Or.inr ⟨rfl, by decide⟩⟩ (aFv_k rfl) ?_
          refine w_get dX11_learnt_81 fl_RX11_214 ⟨rfl, Or.inr ⟨rfl, by decide⟩⟩ (aFv_q (Or.inl rfl)) ?_
          replace h := e_oS h; obtain ⟨a15, r16, h⟩ := h
          rw [r16]
          replace h := e_grd h; obtain ⟨g19, h⟩ := h
          replace h := e_bind h; obtain ⟨q17, e18, h⟩ := h
          refine w_callV1 (M2 := m_X8_allRules) (av := []) (ci := 8) (c_X8_allRules _ _ _ e18) dX11_learnt_84 kd_X8_allRules wd_44_5 wd_43_19 wd_43_20 rfl rfl ⟨g19.1, Or.inl g19.2⟩ rfl ⟨Nat.le_of_ble_eq_true rfl, Nat.le_of_ble_eq_true rfl, Nat.le_of_ble_eq_true rfl, Nat.le_of_ble_eq_true rfl⟩ (Nat.le_of_ble_eq_true rfl) ?_
          refine w_iconst (v := 1) dX11_learnt_87 (by decide) ?_
          replace h := e_bind h; obtain ⟨q20, e21, h⟩ := h
          refine w_callV1 (M2 := m_X5_priceOfSet) (av := [.int (q17.1), .int (1)]) (ci := 5) (c_X5_priceOfSet _ _ _ _ e21) dX11_learnt_88 kd_X5_priceOfSet wd_44_1 wd_44_2 wd_44_3 rfl rfl ⟨rfl, Or.inr ⟨rfl, by decide⟩⟩ rfl ⟨Nat.le_of_ble_eq_true rfl, Nat.le_of_ble_eq_true rfl, Nat.le_of_ble_eq_true rfl, Nat.le_of_ble_eq_true rfl⟩ (Nat.le_of_ble_eq_true rfl) ?_
          obtain rfl := Option.some.inj h
          exact w_lreturn dX11_learnt_91 rfl (Nat.le_of_ble_eq_true rfl) (Nat.le_of_ble_eq_true rfl)
        · refine w_tabOut 92 dX11_learnt_1 (by have zc1 := lv_neT (a := 0) c1 (by decide); have zc4 := lv_neT (a := 1) c4 (by decide); have zc9 := lv_neT (a := 2) c9 (by decide); have zc14 := lv_neT (a := 3) c14 (by decide); omega) (by decide) ?_
          refine w_ldc2 (v := (-1000001)) dX11_learnt_92 wd_40_13 ?_
          obtain rfl := Option.some.inj h
          exact w_lreturn dX11_learnt_95 rfl (Nat.le_of_ble_eq_true rfl) (Nat.le_of_ble_eq_true rfl)
theorem dX11_costs_0 : decode cX11_costs 0 = .ok (.iload_n 1, 1) := by decide +kernel
theorem dX11_costs_1 : decode cX11_costs 1 = .ok (.iconst 0, 1) := by decide +kernel
theorem dX11_costs_2 : decode cX11_costs 2 = .ok (.aload_n 0, 1) := by decide +kernel
theorem dX11_costs_3 : decode cX11_costs 3 = .ok (.getfield 43, 3) := by decide +kernel
theorem dX11_costs_6 : decode cX11_costs 6 = .ok (.getfield 214, 3) := by decide +kernel
theorem dX11_costs_9 : decode cX11_costs 9 = .ok (.invokevirtual 290, 3) := by decide +kernel
theorem dX11_costs_12 : decode cX11_costs 12 = .ok (.invokestatic 89, 3) := by decide +kernel
theorem dX11_costs_15 : decode cX11_costs 15 = .ok (.ifCond .eq 12, 3) := by decide +kernel
theorem dX11_costs_18 : decode cX11_costs 18 = .ok (.iload_n 2, 1) := by decide +kernel
theorem dX11_costs_19 : decode cX11_costs 19 = .ok (.iconst 0, 1) := by decide +kernel
theorem dX11_costs_20 : decode cX11_costs 20 = .ok (.iconst 1, 1) := by decide +kernel
theorem dX11_costs_21 : decode cX11_costs 21 = .ok (.invokestatic 89, 3) := by decide +kernel
theorem dX11_costs_24 : decode cX11_costs 24 = .ok (.ifCond .ne 7, 3) := by decide +kernel
theorem dX11_costs_27 : decode cX11_costs 27 = .ok (.ldc2_w 265, 3) := by decide +kernel
theorem dX11_costs_30 : decode cX11_costs 30 = .ok (.lreturn, 1) := by decide +kernel
theorem dX11_costs_31 : decode cX11_costs 31 = .ok (.aload_n 0, 1) := by decide +kernel
theorem dX11_costs_32 : decode cX11_costs 32 = .ok (.getfield 52, 3) := by decide +kernel
theorem dX11_costs_35 : decode cX11_costs 35 = .ok (.iload_n 1, 1) := by decide +kernel
theorem dX11_costs_36 : decode cX11_costs 36 = .ok (.iload_n 2, 1) := by decide +kernel
theorem dX11_costs_37 : decode cX11_costs 37 = .ok (.invokevirtual 287, 3) := by decide +kernel
theorem dX11_costs_40 : decode cX11_costs 40 = .ok (.lreturn, 1) := by decide +kernel
theorem kd_X11_costs : aKd m_X11_costs 2 := ⟨wd_44_21, wd_1_2, ⟨by decide +kernel, by decide +kernel, by decide +kernel⟩⟩
set_option maxRecDepth 100000 in
set_option maxHeartbeats 4000000 in
theorem l_X11_costs_27   (σ : aSt) (o : Int64 × aSt) (h : f_X11_costs_27   σ = some o) : AW true m_X11_costs 27 [] [] σ 0 0 (some (.long o.1)) o.2 := by
  unfold f_X11_costs_27 at h
  refine w_ldc2 (v := (-1000001)) dX11_costs_27 wd_40_13 ?_
  obtain rfl := Option.some.inj h
  exact w_lreturn dX11_costs_30 rfl (Nat.le_of_ble_eq_true rfl) (Nat.le_of_ble_eq_true rfl)
set_option maxRecDepth 100000 in
set_option maxHeartbeats 4000000 in
theorem c_X11_costs (p1 : Int32) (p2 : Int32) (σ : aSt) (o : Int64 × aSt) (h : f_X11_costs p1 p2 σ = some o) : AM true m_X11_costs [va_rf (some (0)), .int (p1), .int (p2)] σ (some (.long o.1)) o.2 := by
  refine AM_of2 (lv := [(0, va_rf (some (0))), (1, Value.int (p1)), (2, Value.int (p2))]) (by decide +kernel) rfl (Nat.le_of_ble_eq_true rfl) ?_
  unfold f_X11_costs at h
  refine w_iload_n 1 dX11_costs_0 rfl rfl ?_
  refine w_iconst (v := 0) dX11_costs_1 (by decide) ?_
  refine w_aload_n 0 ((some (0))) dX11_costs_2 rfl rfl ?_
  refine w_get (v := va_rf (some 11)) dX11_costs_3 fl_RX11_43 ⟨rfl, Or.inr ⟨rfl, by decide⟩⟩ (aFv_k rfl) ?_
  refine w_get dX11_costs_6 fl_RX11_214 ⟨rfl, Or.inr ⟨rfl, by decide⟩⟩ (aFv_q (Or.inl rfl)) ?_
  replace h := e_oS h; obtain ⟨a1, r2, h⟩ := h
  rw [r2]
  replace h := e_grd h; obtain ⟨g5, h⟩ := h
  replace h := e_bind h; obtain ⟨q3, e4, h⟩ := h
  refine w_callV1 (M2 := m_X8_allRules) (av := []) (ci := 8) (c_X8_allRules _ _ _ e4) dX11_costs_9 kd_X8_allRules wd_44_5 wd_43_19 wd_43_20 rfl rfl ⟨g5.1, Or.inl g5.2⟩ rfl ⟨Nat.le_of_ble_eq_true rfl, Nat.le_of_ble_eq_true rfl, Nat.le_of_ble_eq_true rfl, Nat.le_of_ble_eq_true rfl⟩ (Nat.le_of_ble_eq_true rfl) ?_
  replace h := e_bind h; obtain ⟨q6, e7, h⟩ := h
  refine w_callS1 (M2 := m_X11_within) (av := [.int (p1), .int (0), .int (q3.1)]) (c_X11_within _ _ _ _ _ e7) dX11_costs_12 kd_X11_within wd_9_22 wd_9_23 rfl rfl ⟨Nat.le_of_ble_eq_true rfl, Nat.le_of_ble_eq_true rfl, Nat.le_of_ble_eq_true rfl, Nat.le_of_ble_eq_true rfl⟩ (Nat.le_of_ble_eq_true rfl) ?_
  refine w_if_eq 27 dX11_costs_15 (by decide) (fun c8 => ?_) (fun c8 => ?_)
  · replace h := e_t c8 h
    refine w_sub [] rfl ?_
    exact l_X11_costs_27 _ _ h
  · replace h := e_f c8 h
    refine w_iload_n 2 dX11_costs_18 rfl rfl ?_
    refine w_iconst (v := 0) dX11_costs_19 (by decide) ?_
    refine w_iconst (v := 1) dX11_costs_20 (by decide) ?_
    replace h := e_bind h; obtain ⟨q9, e10, h⟩ := h
    refine w_callS1 (M2 := m_X11_within) (av := [.int (p2), .int (0), .int (1)]) (c_X11_within _ _ _ _ _ e10) dX11_costs_21 kd_X11_within wd_9_22 wd_9_23 rfl rfl ⟨Nat.le_of_ble_eq_true rfl, Nat.le_of_ble_eq_true rfl, Nat.le_of_ble_eq_true rfl, Nat.le_of_ble_eq_true rfl⟩ (Nat.le_of_ble_eq_true rfl) ?_
    refine w_if_ne 31 dX11_costs_24 (by decide) (fun c11 => ?_) (fun c11 => ?_)
    · replace h := e_f c11 h
      refine w_aload_n 0 ((some (0))) dX11_costs_31 rfl rfl ?_
      refine w_get (v := va_rf (some 26)) dX11_costs_32 fl_RX11_52 ⟨rfl, Or.inr ⟨rfl, by decide⟩⟩ (aFv_k rfl) ?_
      refine w_iload_n 1 dX11_costs_35 rfl rfl ?_
      refine w_iload_n 2 dX11_costs_36 rfl rfl ?_
      replace h := e_bind h; obtain ⟨q12, e13, h⟩ := h
      refine w_callV1 (M2 := m_X5_priceOfSet) (av := [.int (p1), .int (p2)]) (ci := 5) (c_X5_priceOfSet _ _ _ _ e13) dX11_costs_37 kd_X5_priceOfSet wd_44_1 wd_44_2 wd_44_3 rfl rfl ⟨rfl, Or.inr ⟨rfl, by decide⟩⟩ rfl ⟨Nat.le_of_ble_eq_true rfl, Nat.le_of_ble_eq_true rfl, Nat.le_of_ble_eq_true rfl, Nat.le_of_ble_eq_true rfl⟩ (Nat.le_of_ble_eq_true rfl) ?_
      obtain rfl := Option.some.inj h
      exact w_lreturn dX11_costs_40 rfl (Nat.le_of_ble_eq_true rfl) (Nat.le_of_ble_eq_true rfl)
    · replace h := e_t c11 h
      refine w_sub [] rfl ?_
      exact l_X11_costs_27 _ _ h
theorem dX11_areBounds_0 : decode cX11_areBounds 0 = .ok (.iload_n 0, 1) := by decide +kernel
theorem dX11_areBounds_1 : decode cX11_areBounds 1 = .ok (.iconst 0, 1) := by decide +kernel
theorem dX11_areBounds_2 : decode cX11_areBounds 2 = .ok (.ldc_w 345, 3) := by decide +kernel
theorem dX11_areBounds_5 : decode cX11_areBounds 5 = .ok (.invokestatic 89, 3) := by decide +kernel
theorem dX11_areBounds_8 : decode cX11_areBounds 8 = .ok (.ifCond .eq 18, 3) := by decide +kernel
theorem dX11_areBounds_11 : decode cX11_areBounds 11 = .ok (.iload_n 1, 1) := by decide +kernel
theorem dX11_areBounds_12 : decode cX11_areBounds 12 = .ok (.iload_n 0, 1) := by decide +kernel
theorem dX11_areBounds_13 : decode cX11_areBounds 13 = .ok (.ldc_w 345, 3) := by decide +kernel
theorem dX11_areBounds_16 : decode cX11_areBounds 16 = .ok (.invokestatic 89, 3) := by decide +kernel
theorem dX11_areBounds_19 : decode cX11_areBounds 19 = .ok (.ifCond .eq 7, 3) := by decide +kernel
theorem dX11_areBounds_22 : decode cX11_areBounds 22 = .ok (.iconst 1, 1) := by decide +kernel
theorem dX11_areBounds_23 : decode cX11_areBounds 23 = .ok (.goto 4, 3) := by decide +kernel
theorem dX11_areBounds_26 : decode cX11_areBounds 26 = .ok (.iconst 0, 1) := by decide +kernel
theorem dX11_areBounds_27 : decode cX11_areBounds 27 = .ok (.ireturn, 1) := by decide +kernel
theorem kd_X11_areBounds : aKd m_X11_areBounds 2 := ⟨wd_45_11, wd_1_2, ⟨by decide +kernel, by decide +kernel, by decide +kernel⟩⟩
set_option maxRecDepth 100000 in
set_option maxHeartbeats 4000000 in
theorem l_X11_areBounds_27  (t0 : Int32) (σ : aSt) (o : Int32 × aSt) (h : f_X11_areBounds_27  t0 σ = some o) : AW true m_X11_areBounds 27 [] [.int (t0)] σ 0 0 (some (.int o.1)) o.2 := by
  unfold f_X11_areBounds_27 at h
  replace h := e_grd h; obtain ⟨g7, h⟩ := h
  obtain rfl := Option.some.inj h
  exact w_zreturn dX11_areBounds_27 rfl (e_nz g7) (Nat.le_of_ble_eq_true rfl) (Nat.le_of_ble_eq_true rfl)
set_option maxRecDepth 100000 in
set_option maxHeartbeats 4000000 in
theorem l_X11_areBounds_26   (σ : aSt) (o : Int32 × aSt) (h : f_X11_areBounds_26   σ = some o) : AW true m_X11_areBounds 26 [] [] σ 0 0 (some (.int o.1)) o.2 := by
  unfold f_X11_areBounds_26 at h
  refine w_iconst (v := 0) dX11_areBounds_26 (by decide) ?_
  exact l_X11_areBounds_27 _ _ _ h
set_option maxRecDepth 100000 in
set_option maxHeartbeats 4000000 in
theorem c_X11_areBounds (p0 : Int32) (p1 : Int32) (σ : aSt) (o : Int32 × aSt) (h : f_X11_areBounds p0 p1 σ = some o) : AM true m_X11_areBounds [.int (p0), .int (p1)] σ (some (.int o.1)) o.2 := by
  refine AM_of2 (lv := [(0, Value.int (p0)), (1, Value.int (p1))]) (by decide +kernel) rfl (Nat.le_of_ble_eq_true rfl) ?_
  unfold f_X11_areBounds at h
  refine w_iload_n 0 dX11_areBounds_0 rfl rfl ?_
  refine w_iconst (v := 0) dX11_areBounds_1 (by decide) ?_
  refine w_ldcw (v := 200000) dX11_areBounds_2 wd_45_12 ?_
  replace h := e_bind h; obtain ⟨q1, e2, h⟩ := h
  refine w_callS1 (M2 := m_X11_within) (av := [.int (p0), .int (0), .int (200000)]) (c_X11_within _ _ _ _ _ e2) dX11_areBounds_5 kd_X11_within wd_9_22 wd_9_23 rfl rfl ⟨Nat.le_of_ble_eq_true rfl, Nat.le_of_ble_eq_true rfl, Nat.le_of_ble_eq_true rfl, Nat.le_of_ble_eq_true rfl⟩ (Nat.le_of_ble_eq_true rfl) ?_
  refine w_if_eq 26 dX11_areBounds_8 (by decide) (fun c3 => ?_) (fun c3 => ?_)
  · replace h := e_t c3 h
    refine w_sub [] rfl ?_
    exact l_X11_areBounds_26 _ _ h
  · replace h := e_f c3 h
    refine w_iload_n 1 dX11_areBounds_11 rfl rfl ?_
    refine w_iload_n 0 dX11_areBounds_12 rfl rfl ?_
    refine w_ldcw (v := 200000) dX11_areBounds_13 wd_45_12 ?_
    replace h := e_bind h; obtain ⟨q4, e5, h⟩ := h
    refine w_callS1 (M2 := m_X11_within) (av := [.int (p1), .int (p0), .int (200000)]) (c_X11_within _ _ _ _ _ e5) dX11_areBounds_16 kd_X11_within wd_9_22 wd_9_23 rfl rfl ⟨Nat.le_of_ble_eq_true rfl, Nat.le_of_ble_eq_true rfl, Nat.le_of_ble_eq_true rfl, Nat.le_of_ble_eq_true rfl⟩ (Nat.le_of_ble_eq_true rfl) ?_
    refine w_if_eq 26 dX11_areBounds_19 (by decide) (fun c6 => ?_) (fun c6 => ?_)
    · replace h := e_t c6 h
      refine w_sub [] rfl ?_
      exact l_X11_areBounds_26 _ _ h
    · replace h := e_f c6 h
      refine w_iconst (v := 1) dX11_areBounds_22 (by decide) ?_
      refine w_goto 27 dX11_areBounds_23 (by decide) ?_
      refine w_sub [] rfl ?_
      exact l_X11_areBounds_27 _ _ _ h
theorem dX1_tally_0 : decode cX1_tally 0 = .ok (.aload_n 0, 1) := by decide +kernel
theorem dX1_tally_1 : decode cX1_tally 1 = .ok (.iconst 0, 1) := by decide +kernel
theorem dX1_tally_2 : decode cX1_tally 2 = .ok (.putfield 7, 3) := by decide +kernel
theorem dX1_tally_5 : decode cX1_tally 5 = .ok (.aload_n 0, 1) := by decide +kernel
theorem dX1_tally_6 : decode cX1_tally 6 = .ok (.iconst 0, 1) := by decide +kernel
theorem dX1_tally_7 : decode cX1_tally 7 = .ok (.putfield 13, 3) := by decide +kernel
theorem dX1_tally_10 : decode cX1_tally 10 = .ok (.aload_n 0, 1) := by decide +kernel
theorem dX1_tally_11 : decode cX1_tally 11 = .ok (.iconst 0, 1) := by decide +kernel
theorem dX1_tally_12 : decode cX1_tally 12 = .ok (.putfield 16, 3) := by decide +kernel
theorem dX1_tally_15 : decode cX1_tally 15 = .ok (.aload_n 0, 1) := by decide +kernel
theorem dX1_tally_16 : decode cX1_tally 16 = .ok (.iconst 0, 1) := by decide +kernel
theorem dX1_tally_17 : decode cX1_tally 17 = .ok (.putfield 19, 3) := by decide +kernel
theorem dX1_tally_20 : decode cX1_tally 20 = .ok (.iconst 0, 1) := by decide +kernel
theorem dX1_tally_21 : decode cX1_tally 21 = .ok (.istore 6, 2) := by decide +kernel
theorem dX1_tally_23 : decode cX1_tally 23 = .ok (.iload 6, 2) := by decide +kernel
theorem dX1_tally_25 : decode cX1_tally 25 = .ok (.aload_n 1, 1) := by decide +kernel
theorem dX1_tally_26 : decode cX1_tally 26 = .ok (.getfield 22, 3) := by decide +kernel
theorem dX1_tally_29 : decode cX1_tally 29 = .ok (.if_icmp .ge 115, 3) := by decide +kernel
theorem dX1_tally_32 : decode cX1_tally 32 = .ok (.aload_n 1, 1) := by decide +kernel
theorem dX1_tally_33 : decode cX1_tally 33 = .ok (.iload 6, 2) := by decide +kernel
theorem dX1_tally_35 : decode cX1_tally 35 = .ok (.invokevirtual 27, 3) := by decide +kernel
theorem dX1_tally_38 : decode cX1_tally 38 = .ok (.astore 7, 2) := by decide +kernel
theorem dX1_tally_40 : decode cX1_tally 40 = .ok (.aload 7, 2) := by decide +kernel
theorem dX1_tally_42 : decode cX1_tally 42 = .ok (.ifnull 96, 3) := by decide +kernel
theorem dX1_tally_45 : decode cX1_tally 45 = .ok (.aload 7, 2) := by decide +kernel
theorem dX1_tally_47 : decode cX1_tally 47 = .ok (.getfield 31, 3) := by decide +kernel
theorem dX1_tally_50 : decode cX1_tally 50 = .ok (.iload_n 3, 1) := by decide +kernel
theorem dX1_tally_51 : decode cX1_tally 51 = .ok (.if_icmp .lt 87, 3) := by decide +kernel
theorem dX1_tally_54 : decode cX1_tally 54 = .ok (.aload 7, 2) := by decide +kernel
theorem dX1_tally_56 : decode cX1_tally 56 = .ok (.getfield 31, 3) := by decide +kernel
theorem dX1_tally_59 : decode cX1_tally 59 = .ok (.iload 5, 2) := by decide +kernel
theorem dX1_tally_61 : decode cX1_tally 61 = .ok (.if_icmp .lt 6, 3) := by decide +kernel
theorem dX1_tally_64 : decode cX1_tally 64 = .ok (.goto 74, 3) := by decide +kernel
theorem dX1_tally_67 : decode cX1_tally 67 = .ok (.aload 7, 2) := by decide +kernel
theorem dX1_tally_69 : decode cX1_tally 69 = .ok (.getfield 36, 3) := by decide +kernel
theorem dX1_tally_72 : decode cX1_tally 72 = .ok (.iload_n 2, 1) := by decide +kernel
theorem dX1_tally_73 : decode cX1_tally 73 = .ok (.if_icmp .ne 7, 3) := by decide +kernel
theorem dX1_tally_76 : decode cX1_tally 76 = .ok (.iconst 1, 1) := by decide +kernel
theorem dX1_tally_77 : decode cX1_tally 77 = .ok (.goto 4, 3) := by decide +kernel
theorem dX1_tally_80 : decode cX1_tally 80 = .ok (.iconst 0, 1) := by decide +kernel
theorem dX1_tally_81 : decode cX1_tally 81 = .ok (.istore 8, 2) := by decide +kernel
theorem dX1_tally_83 : decode cX1_tally 83 = .ok (.aload 7, 2) := by decide +kernel
theorem dX1_tally_85 : decode cX1_tally 85 = .ok (.getfield 31, 3) := by decide +kernel
theorem dX1_tally_88 : decode cX1_tally 88 = .ok (.iload 4, 2) := by decide +kernel
theorem dX1_tally_90 : decode cX1_tally 90 = .ok (.if_icmp .ge 27, 3) := by decide +kernel
theorem dX1_tally_93 : decode cX1_tally 93 = .ok (.aload_n 0, 1) := by decide +kernel
theorem dX1_tally_94 : decode cX1_tally 94 = .ok (.dup, 1) := by decide +kernel
theorem dX1_tally_95 : decode cX1_tally 95 = .ok (.getfield 7, 3) := by decide +kernel
theorem dX1_tally_98 : decode cX1_tally 98 = .ok (.iconst 1, 1) := by decide +kernel
theorem dX1_tally_99 : decode cX1_tally 99 = .ok (.iadd, 1) := by decide +kernel
theorem dX1_tally_100 : decode cX1_tally 100 = .ok (.putfield 7, 3) := by decide +kernel
theorem dX1_tally_103 : decode cX1_tally 103 = .ok (.aload_n 0, 1) := by decide +kernel
theorem dX1_tally_104 : decode cX1_tally 104 = .ok (.dup, 1) := by decide +kernel
theorem dX1_tally_105 : decode cX1_tally 105 = .ok (.getfield 16, 3) := by decide +kernel
theorem dX1_tally_108 : decode cX1_tally 108 = .ok (.iload 8, 2) := by decide +kernel
theorem dX1_tally_110 : decode cX1_tally 110 = .ok (.iadd, 1) := by decide +kernel
theorem dX1_tally_111 : decode cX1_tally 111 = .ok (.putfield 16, 3) := by decide +kernel
theorem dX1_tally_114 : decode cX1_tally 114 = .ok (.goto 24, 3) := by decide +kernel
theorem dX1_tally_117 : decode cX1_tally 117 = .ok (.aload_n 0, 1) := by decide +kernel
theorem dX1_tally_118 : decode cX1_tally 118 = .ok (.dup, 1) := by decide +kernel
theorem dX1_tally_119 : decode cX1_tally 119 = .ok (.getfield 13, 3) := by decide +kernel
theorem dX1_tally_122 : decode cX1_tally 122 = .ok (.iconst 1, 1) := by decide +kernel
theorem dX1_tally_123 : decode cX1_tally 123 = .ok (.iadd, 1) := by decide +kernel
theorem dX1_tally_124 : decode cX1_tally 124 = .ok (.putfield 13, 3) := by decide +kernel
theorem dX1_tally_127 : decode cX1_tally 127 = .ok (.aload_n 0, 1) := by decide +kernel
theorem dX1_tally_128 : decode cX1_tally 128 = .ok (.dup, 1) := by decide +kernel
theorem dX1_tally_129 : decode cX1_tally 129 = .ok (.getfield 19, 3) := by decide +kernel
theorem dX1_tally_132 : decode cX1_tally 132 = .ok (.iload 8, 2) := by decide +kernel
theorem dX1_tally_134 : decode cX1_tally 134 = .ok (.iadd, 1) := by decide +kernel
theorem dX1_tally_135 : decode cX1_tally 135 = .ok (.putfield 19, 3) := by decide +kernel
theorem dX1_tally_138 : decode cX1_tally 138 = .ok (.iinc 6 1, 3) := by decide +kernel
theorem dX1_tally_141 : decode cX1_tally 141 = .ok (.goto (-118), 3) := by decide +kernel
theorem dX1_tally_144 : decode cX1_tally 144 = .ok (.return_, 1) := by decide +kernel
theorem kd_X1_tally : aKd m_X1_tally 5 := ⟨wd_45_16, wd_2_13, ⟨by decide +kernel, by decide +kernel, by decide +kernel⟩⟩
set_option maxRecDepth 100000 in
set_option maxHeartbeats 4000000 in
theorem l_X1_tally_138 (rec23 : Int32 → Int32 → Int32 → Int32 → Int32 → aSt → Option (Unit × aSt)) (hrec23 : ∀ (x2 : Int32) (x3 : Int32) (x4 : Int32) (x5 : Int32) (x6 : Int32) (σ : aSt) (o : Unit × aSt), rec23 x2 x3 x4 x5 x6 σ = some o → AW true m_X1_tally 23 [(0, va_rf (some (31))), (1, va_rf (some (2))), (2, Value.int (x2)), (3, Value.int (x3)), (4, Value.int (x4)), (5, Value.int (x5)), (6, Value.int (x6))] [] σ 0 0 none o.2) (x2 : Int32) (x3 : Int32) (x4 : Int32) (x5 : Int32) (x6 : Int32) (σ : aSt) (o : Unit × aSt) (h : f_X1_tally_138 rec23 x2 x3 x4 x5 x6 σ = some o) : AW true m_X1_tally 138 [(0, va_rf (some (31))), (1, va_rf (some (2))), (2, Value.int (x2)), (3, Value.int (x3)), (4, Value.int (x4)), (5, Value.int (x5)), (6, Value.int (x6))] [] σ 0 0 none o.2 := by
  unfold f_X1_tally_138 at h
  refine w_iinc (q := 6) (v := x6 + 1) dX1_tally_138 rfl rfl (by decide) rfl ?_
  refine w_goto 23 dX1_tally_141 (by decide) ?_
  refine w_sub [1, 2, 3, 4, 5, 6, 0] rfl ?_
  exact hrec23 _ _ _ _ _ _ _ h
set_option maxRecDepth 100000 in
set_option maxHeartbeats 4000000 in
theorem l_X1_tally_81 (rec23 : Int32 → Int32 → Int32 → Int32 → Int32 → aSt → Option (Unit × aSt)) (hrec23 : ∀ (x2 : Int32) (x3 : Int32) (x4 : Int32) (x5 : Int32) (x6 : Int32) (σ : aSt) (o : Unit × aSt), rec23 x2 x3 x4 x5 x6 σ = some o → AW true m_X1_tally 23 [(0, va_rf (some (31))), (1, va_rf (some (2))), (2, Value.int (x2)), (3, Value.int (x3)), (4, Value.int (x4)), (5, Value.int (x5)), (6, Value.int (x6))] [] σ 0 0 none o.2) (x2 : Int32) (x3 : Int32) (x4 : Int32) (x5 : Int32) (x6 : Int32) (x7 : Nat) (t0 : Int32) (σ : aSt) (o : Unit × aSt) (h : f_X1_tally_81 rec23 x2 x3 x4 x5 x6 x7 t0 σ = some o) : AW true m_X1_tally 81 [(0, va_rf (some (31))), (1, va_rf (some (2))), (2, Value.int (x2)), (3, Value.int (x3)), (4, Value.int (x4)), (5, Value.int (x5)), (6, Value.int (x6)), (7, va_rf (some (x7)))] [.int (t0)] σ 0 0 none o.2 := by
  unfold f_X1_tally_81 at h
  refine w_istore dX1_tally_81 (by decide) rfl ?_
  refine w_aload 8 ((some (x7))) dX1_tally_83 rfl ?_
  replace h := e_grd h; obtain ⟨g1, h⟩ := h
  refine w_get dX1_tally_85 fl_RX1_31 ⟨g1.1, Or.inl g1.2⟩ (aFv_i rfl) ?_
  refine w_iload 5 dX1_tally_88 rfl ?_
  refine w_icmp_ge 117 dX1_tally_90 (by decide) (fun c2 => ?_) (fun c2 => ?_)
  · replace h := e_t c2 h
    refine w_aload_n 1 ((some (31))) dX1_tally_117 rfl rfl ?_
    refine w_dup dX1_tally_118 (aRf_cat _) ?_
    refine w_get dX1_tally_119 fl_RX1_13 ⟨rfl, Or.inr ⟨rfl, by decide⟩⟩ (aFv_i rfl) ?_
    refine w_iconst (v := 1) dX1_tally_122 (by decide) ?_
    refine w_iadd dX1_tally_123 ?_
    refine w_putI dX1_tally_124 fl_RX1_13 (Or.inl rfl) rfl ⟨rfl, Or.inr ⟨rfl, by decide⟩⟩ ?_
    refine w_aload_n 1 ((some (31))) dX1_tally_127 rfl rfl ?_
    refine w_dup dX1_tally_128 (aRf_cat _) ?_
    refine w_get dX1_tally_129 fl_RX1_19 ⟨rfl, Or.inr ⟨rfl, by decide⟩⟩ (aFv_i rfl) ?_
    refine w_iload 0 dX1_tally_132 rfl ?_
    refine w_iadd dX1_tally_134 ?_
    refine w_putI dX1_tally_135 fl_RX1_19 (Or.inl rfl) rfl ⟨rfl, Or.inr ⟨rfl, by decide⟩⟩ ?_
    refine w_sub [1, 2, 3, 4, 5, 6, 7] rfl ?_
    exact l_X1_tally_138 rec23 hrec23 _ _ _ _ _ _ _ h
  · replace h := e_f c2 h
    refine w_aload_n 1 ((some (31))) dX1_tally_93 rfl rfl ?_
    refine w_dup dX1_tally_94 (aRf_cat _) ?_
    refine w_get dX1_tally_95 fl_RX1_7 ⟨rfl, Or.inr ⟨rfl, by decide⟩⟩ (aFv_i rfl) ?_
    refine w_iconst (v := 1) dX1_tally_98 (by decide) ?_
    refine w_iadd dX1_tally_99 ?_
    refine w_putI dX1_tally_100 fl_RX1_7 (Or.inl rfl) rfl ⟨rfl, Or.inr ⟨rfl, by decide⟩⟩ ?_
    refine w_aload_n 1 ((some (31))) dX1_tally_103 rfl rfl ?_
    refine w_dup dX1_tally_104 (aRf_cat _) ?_
    refine w_get dX1_tally_105 fl_RX1_16 ⟨rfl, Or.inr ⟨rfl, by decide⟩⟩ (aFv_i rfl) ?_
    refine w_iload 0 dX1_tally_108 rfl ?_
    refine w_iadd dX1_tally_110 ?_
    refine w_putI dX1_tally_111 fl_RX1_16 (Or.inl rfl) rfl ⟨rfl, Or.inr ⟨rfl, by decide⟩⟩ ?_
    refine w_goto 138 dX1_tally_114 (by decide) ?_
    refine w_sub [1, 2, 3, 4, 5, 6, 7] rfl ?_
    exact l_X1_tally_138 rec23 hrec23 _ _ _ _ _ _ _ h
set_option maxRecDepth 100000 in
set_option maxHeartbeats 4000000 in
theorem l_X1_tally_23_b (rec23 : Int32 → Int32 → Int32 → Int32 → Int32 → aSt → Option (Unit × aSt)) (hrec23 : ∀ (x2 : Int32) (x3 : Int32) (x4 : Int32) (x5 : Int32) (x6 : Int32) (σ : aSt) (o : Unit × aSt), rec23 x2 x3 x4 x5 x6 σ = some o → AW true m_X1_tally 23 [(0, va_rf (some (31))), (1, va_rf (some (2))), (2, Value.int (x2)), (3, Value.int (x3)), (4, Value.int (x4)), (5, Value.int (x5)), (6, Value.int (x6))] [] σ 0 0 none o.2) (x2 : Int32) (x3 : Int32) (x4 : Int32) (x5 : Int32) (x6 : Int32) (σ : aSt) (o : Unit × aSt) (h : f_X1_tally_23_b rec23 x2 x3 x4 x5 x6 σ = some o) : AW true m_X1_tally 23 [(0, va_rf (some (31))), (1, va_rf (some (2))), (2, Value.int (x2)), (3, Value.int (x3)), (4, Value.int (x4)), (5, Value.int (x5)), (6, Value.int (x6))] [] σ 0 0 none o.2 := by
  unfold f_X1_tally_23_b at h
  refine w_iload 6 dX1_tally_23 rfl ?_
  refine w_aload_n 1 ((some (2))) dX1_tally_25 rfl rfl ?_
  refine w_get dX1_tally_26 fl_RX1_22 ⟨rfl, Or.inr ⟨rfl, by decide⟩⟩ (aFv_i rfl) ?_
  refine w_icmp_ge 144 dX1_tally_29 (by decide) (fun c3 => ?_) (fun c3 => ?_)
  · replace h := e_t c3 h
    obtain rfl := Option.some.inj h
    exact w_vreturn dX1_tally_144 rfl (Nat.le_of_ble_eq_true rfl) (Nat.le_of_ble_eq_true rfl)
  · replace h := e_f c3 h
    refine w_aload_n 1 ((some (2))) dX1_tally_32 rfl rfl ?_
    refine w_iload 6 dX1_tally_33 rfl ?_
    replace h := e_bind h; obtain ⟨q4, e5, h⟩ := h
    refine w_callV1 (M2 := m_X3_inOrder) (av := [.int (x6)]) (ci := 3) (c_X3_inOrder _ _ _ e5) dX1_tally_35 kd_X3_inOrder wd_45_20 wd_17_10 wd_17_11 rfl rfl ⟨rfl, Or.inr ⟨rfl, by decide⟩⟩ rfl ⟨Nat.le_of_ble_eq_true rfl, Nat.le_of_ble_eq_true rfl, Nat.le_of_ble_eq_true rfl, Nat.le_of_ble_eq_true rfl⟩ (Nat.le_of_ble_eq_true rfl) ?_
    refine w_astore dX1_tally_38 (by decide) rfl ?_
    refine w_aload 0 (q4.1) dX1_tally_40 rfl ?_
    replace h := e_oC h; rcases h with ⟨r11, h⟩ | ⟨a6, r11, h⟩
    · rw [r11]
      refine w_ifnull0 138 dX1_tally_42 (by decide) ?_
      refine w_sub [1, 2, 3, 4, 5, 6, 7] rfl ?_
      exact l_X1_tally_138 rec23 hrec23 _ _ _ _ _ _ _ h
    · rw [r11]
      refine w_ifnull1 dX1_tally_42 ?_
      refine w_aload 0 ((some (a6))) dX1_tally_45 rfl ?_
      replace h := e_grd h; obtain ⟨g7, h⟩ := h
      refine w_get dX1_tally_47 fl_RX1_31 ⟨g7.1, Or.inl g7.2⟩ (aFv_i rfl) ?_
      refine w_iload_n 4 dX1_tally_50 rfl rfl ?_
      refine w_icmp_lt 138 dX1_tally_51 (by decide) (fun c8 => ?_) (fun c8 => ?_)
      · replace h := e_t c8 h
        refine w_sub [1, 2, 3, 4, 5, 6, 7] rfl ?_
        exact l_X1_tally_138 rec23 hrec23 _ _ _ _ _ _ _ h
      · replace h := e_f c8 h
        refine w_aload 0 ((some (a6))) dX1_tally_54 rfl ?_
        refine w_get dX1_tally_56 fl_RX1_31 ⟨g7.1, Or.inl g7.2⟩ (aFv_i rfl) ?_
        refine w_iload 6 dX1_tally_59 rfl ?_
        refine w_icmp_lt 67 dX1_tally_61 (by decide) (fun c9 => ?_) (fun c9 => ?_)
        · replace h := e_t c9 h
          refine w_aload 0 ((some (a6))) dX1_tally_67 rfl ?_
          refine w_get dX1_tally_69 fl_RX1_36 ⟨g7.1, Or.inl g7.2⟩ (aFv_i rfl) ?_
          refine w_iload_n 3 dX1_tally_72 rfl rfl ?_
          refine w_icmp_ne 80 dX1_tally_73 (by decide) (fun c10 => ?_) (fun c10 => ?_)
          · replace h := e_f c10 h
            refine w_iconst (v := 0) dX1_tally_80 (by decide) ?_
            refine w_sub [1, 2, 3, 4, 5, 6, 7, 0] rfl ?_
            exact l_X1_tally_81 rec23 hrec23 _ _ _ _ _ _ _ _ _ h
          · replace h := e_t c10 h
            refine w_iconst (v := 1) dX1_tally_76 (by decide) ?_
            refine w_goto 81 dX1_tally_77 (by decide) ?_
            refine w_sub [1, 2, 3, 4, 5, 6, 7, 0] rfl ?_
            exact l_X1_tally_81 rec23 hrec23 _ _ _ _ _ _ _ _ _ h
        · replace h := e_f c9 h
          refine w_goto 138 dX1_tally_64 (by decide) ?_
          refine w_sub [1, 2, 3, 4, 5, 6, 7] rfl ?_
          exact l_X1_tally_138 rec23 hrec23 _ _ _ _ _ _ _ h
theorem l_X1_tally_23  : ∀ (n : Nat) (x2 : Int32) (x3 : Int32) (x4 : Int32) (x5 : Int32) (x6 : Int32) (σ : aSt) (o : Unit × aSt), f_X1_tally_23  n x2 x3 x4 x5 x6 σ = some o → AW true m_X1_tally 23 [(0, va_rf (some (31))), (1, va_rf (some (2))), (2, Value.int (x2)), (3, Value.int (x3)), (4, Value.int (x4)), (5, Value.int (x5)), (6, Value.int (x6))] [] σ 0 0 none o.2
  | 0 => fun x2 x3 x4 x5 x6 σ o h => by cases h
  | n + 1 => fun x2 x3 x4 x5 x6 σ o h => l_X1_tally_23_b (f_X1_tally_23  n) (l_X1_tally_23  n) x2 x3 x4 x5 x6 σ o h
set_option maxRecDepth 100000 in
set_option maxHeartbeats 4000000 in
theorem l_X1_tally_15  (x2 : Int32) (x3 : Int32) (x4 : Int32) (x5 : Int32) (σ : aSt) (o : Unit × aSt) (h : f_X1_tally_15  x2 x3 x4 x5 σ = some o) : AW true m_X1_tally 15 [(0, va_rf (some (31))), (1, va_rf (some (2))), (2, Value.int (x2)), (3, Value.int (x3)), (4, Value.int (x4)), (5, Value.int (x5))] [] σ 0 0 none o.2 := by
  unfold f_X1_tally_15 at h
  refine w_aload_n 0 ((some (31))) dX1_tally_15 rfl rfl ?_
  refine w_iconst (v := 0) dX1_tally_16 (by decide) ?_
  refine w_putI dX1_tally_17 fl_RX1_19 (Or.inl rfl) rfl ⟨rfl, Or.inr ⟨rfl, by decide⟩⟩ ?_
  refine w_iconst (v := 0) dX1_tally_20 (by decide) ?_
  refine w_istore dX1_tally_21 (by decide) rfl ?_
  refine w_sub [1, 2, 3, 4, 5, 6, 0] rfl ?_
  exact l_X1_tally_23 aN _ _ _ _ _ _ _ h
set_option maxRecDepth 100000 in
set_option maxHeartbeats 4000000 in
theorem c_X1_tally (p2 : Int32) (p3 : Int32) (p4 : Int32) (p5 : Int32) (σ : aSt) (o : Unit × aSt) (h : f_X1_tally p2 p3 p4 p5 σ = some o) : AM true m_X1_tally [va_rf (some (31)), va_rf (some (2)), .int (p2), .int (p3), .int (p4), .int (p5)] σ none o.2 := by
  refine AM_of2 (lv := [(0, va_rf (some (31))), (1, va_rf (some (2))), (2, Value.int (p2)), (3, Value.int (p3)), (4, Value.int (p4)), (5, Value.int (p5))]) (by decide +kernel) rfl (Nat.le_of_ble_eq_true rfl) ?_
  unfold f_X1_tally at h
  refine w_aload_n 0 ((some (31))) dX1_tally_0 rfl rfl ?_
  refine w_iconst (v := 0) dX1_tally_1 (by decide) ?_
  refine w_putI dX1_tally_2 fl_RX1_7 (Or.inl rfl) rfl ⟨rfl, Or.inr ⟨rfl, by decide⟩⟩ ?_
  refine w_aload_n 0 ((some (31))) dX1_tally_5 rfl rfl ?_
  refine w_iconst (v := 0) dX1_tally_6 (by decide) ?_
  refine w_putI dX1_tally_7 fl_RX1_13 (Or.inl rfl) rfl ⟨rfl, Or.inr ⟨rfl, by decide⟩⟩ ?_
  refine w_aload_n 0 ((some (31))) dX1_tally_10 rfl rfl ?_
  refine w_iconst (v := 0) dX1_tally_11 (by decide) ?_
  refine w_putI dX1_tally_12 fl_RX1_16 (Or.inl rfl) rfl ⟨rfl, Or.inr ⟨rfl, by decide⟩⟩ ?_
  exact l_X1_tally_15 _ _ _ _ _ _ h
theorem dX1_apart_0 : decode cX1_apart 0 = .ok (.iload_n 1, 1) := by decide +kernel
theorem dX1_apart_1 : decode cX1_apart 1 = .ok (.aload_n 0, 1) := by decide +kernel
theorem dX1_apart_2 : decode cX1_apart 2 = .ok (.getfield 13, 3) := by decide +kernel
theorem dX1_apart_5 : decode cX1_apart 5 = .ok (.imul, 1) := by decide +kernel
theorem dX1_apart_6 : decode cX1_apart 6 = .ok (.iload_n 2, 1) := by decide +kernel
theorem dX1_apart_7 : decode cX1_apart 7 = .ok (.aload_n 0, 1) := by decide +kernel
theorem dX1_apart_8 : decode cX1_apart 8 = .ok (.getfield 7, 3) := by decide +kernel
theorem dX1_apart_11 : decode cX1_apart 11 = .ok (.imul, 1) := by decide +kernel
theorem dX1_apart_12 : decode cX1_apart 12 = .ok (.isub, 1) := by decide +kernel
theorem dX1_apart_13 : decode cX1_apart 13 = .ok (.invokestatic 51, 3) := by decide +kernel
theorem dX1_apart_16 : decode cX1_apart 16 = .ok (.ireturn, 1) := by decide +kernel
theorem kd_X1_apart : aKd m_X1_apart 2 := ⟨wd_46_8, wd_2_13, ⟨by decide +kernel, by decide +kernel, by decide +kernel⟩⟩
set_option maxRecDepth 100000 in
set_option maxHeartbeats 4000000 in
theorem c_X1_apart (p1 : Int32) (p2 : Int32) (σ : aSt) (o : Int32 × aSt) (h : f_X1_apart p1 p2 σ = some o) : AM true m_X1_apart [va_rf (some (31)), .int (p1), .int (p2)] σ (some (.int o.1)) o.2 := by
  refine AM_of2 (lv := [(0, va_rf (some (31))), (1, Value.int (p1)), (2, Value.int (p2))]) (by decide +kernel) rfl (Nat.le_of_ble_eq_true rfl) ?_
  unfold f_X1_apart at h
  refine w_iload_n 1 dX1_apart_0 rfl rfl ?_
  refine w_aload_n 0 ((some (31))) dX1_apart_1 rfl rfl ?_
  refine w_get dX1_apart_2 fl_RX1_13 ⟨rfl, Or.inr ⟨rfl, by decide⟩⟩ (aFv_i rfl) ?_
  refine w_imul dX1_apart_5 ?_
  refine w_iload_n 2 dX1_apart_6 rfl rfl ?_
  refine w_aload_n 0 ((some (31))) dX1_apart_7 rfl rfl ?_
  refine w_get dX1_apart_8 fl_RX1_7 ⟨rfl, Or.inr ⟨rfl, by decide⟩⟩ (aFv_i rfl) ?_
  refine w_imul dX1_apart_11 ?_
  refine w_isub dX1_apart_12 ?_
  refine w_abs dX1_apart_13 wd_46_9 wd_46_10 wd_23_17 wd_46_11 (by decide) (by decide) (by decide) (by decide) ?_
  obtain rfl := Option.some.inj h
  exact w_ireturn dX1_apart_16 rfl (Nat.le_of_ble_eq_true rfl) (Nat.le_of_ble_eq_true rfl)
theorem dX1_choose_0 : decode cX1_choose 0 = .ok (.iload_n 1, 1) := by decide +kernel
theorem dX1_choose_1 : decode cX1_choose 1 = .ok (.ifCond .lt 8, 3) := by decide +kernel
theorem dX1_choose_4 : decode cX1_choose 4 = .ok (.iload_n 1, 1) := by decide +kernel
theorem dX1_choose_5 : decode cX1_choose 5 = .ok (.iload_n 0, 1) := by decide +kernel
theorem dX1_choose_6 : decode cX1_choose 6 = .ok (.if_icmp .le 5, 3) := by decide +kernel
theorem dX1_choose_9 : decode cX1_choose 9 = .ok (.lconst 0, 1) := by decide +kernel
theorem dX1_choose_10 : decode cX1_choose 10 = .ok (.lreturn, 1) := by decide +kernel
theorem dX1_choose_11 : decode cX1_choose 11 = .ok (.lconst 1, 1) := by decide +kernel
theorem dX1_choose_12 : decode cX1_choose 12 = .ok (.lstore_n 2, 1) := by decide +kernel
theorem dX1_choose_13 : decode cX1_choose 13 = .ok (.iconst 1, 1) := by decide +kernel
theorem dX1_choose_14 : decode cX1_choose 14 = .ok (.istore 4, 2) := by decide +kernel
theorem dX1_choose_16 : decode cX1_choose 16 = .ok (.iload 4, 2) := by decide +kernel
theorem dX1_choose_18 : decode cX1_choose 18 = .ok (.iload_n 1, 1) := by decide +kernel
theorem dX1_choose_19 : decode cX1_choose 19 = .ok (.if_icmp .gt 23, 3) := by decide +kernel
theorem dX1_choose_22 : decode cX1_choose 22 = .ok (.lload_n 2, 1) := by decide +kernel
theorem dX1_choose_23 : decode cX1_choose 23 = .ok (.iload_n 0, 1) := by decide +kernel
theorem dX1_choose_24 : decode cX1_choose 24 = .ok (.iload_n 1, 1) := by decide +kernel
theorem dX1_choose_25 : decode cX1_choose 25 = .ok (.isub, 1) := by decide +kernel
theorem dX1_choose_26 : decode cX1_choose 26 = .ok (.iload 4, 2) := by decide +kernel
theorem dX1_choose_28 : decode cX1_choose 28 = .ok (.iadd, 1) := by decide +kernel
theorem dX1_choose_29 : decode cX1_choose 29 = .ok (.i2l, 1) := by decide +kernel
theorem dX1_choose_30 : decode cX1_choose 30 = .ok (.lmul, 1) := by decide +kernel
theorem dX1_choose_31 : decode cX1_choose 31 = .ok (.iload 4, 2) := by decide +kernel
theorem dX1_choose_33 : decode cX1_choose 33 = .ok (.i2l, 1) := by decide +kernel
theorem dX1_choose_34 : decode cX1_choose 34 = .ok (.ldiv, 1) := by decide +kernel
theorem dX1_choose_35 : decode cX1_choose 35 = .ok (.lstore_n 2, 1) := by decide +kernel
theorem dX1_choose_36 : decode cX1_choose 36 = .ok (.iinc 4 1, 3) := by decide +kernel
theorem dX1_choose_39 : decode cX1_choose 39 = .ok (.goto (-23), 3) := by decide +kernel
theorem dX1_choose_42 : decode cX1_choose 42 = .ok (.lload_n 2, 1) := by decide +kernel
theorem dX1_choose_43 : decode cX1_choose 43 = .ok (.lreturn, 1) := by decide +kernel
theorem kd_X1_choose : aKd m_X1_choose 2 := ⟨wd_46_14, wd_2_13, ⟨by decide +kernel, by decide +kernel, by decide +kernel⟩⟩
set_option maxRecDepth 100000 in
set_option maxHeartbeats 4000000 in
theorem l_X1_choose_9   (σ : aSt) (o : Int64 × aSt) (h : f_X1_choose_9   σ = some o) : AW true m_X1_choose 9 [] [] σ 0 0 (some (.long o.1)) o.2 := by
  unfold f_X1_choose_9 at h
  refine w_lconst (v := 0) dX1_choose_9 (by decide) ?_
  obtain rfl := Option.some.inj h
  exact w_lreturn dX1_choose_10 rfl (Nat.le_of_ble_eq_true rfl) (Nat.le_of_ble_eq_true rfl)
set_option maxRecDepth 100000 in
set_option maxHeartbeats 4000000 in
theorem l_X1_choose_16_b (rec16 : Int32 → Int32 → Int64 → Int32 → aSt → Option (Int64 × aSt)) (hrec16 : ∀ (x0 : Int32) (x1 : Int32) (x2 : Int64) (x4 : Int32) (σ : aSt) (o : Int64 × aSt), rec16 x0 x1 x2 x4 σ = some o → AW true m_X1_choose 16 [(0, Value.int (x0)), (1, Value.int (x1)), (2, Value.long (x2)), (4, Value.int (x4))] [] σ 0 0 (some (.long o.1)) o.2) (x0 : Int32) (x1 : Int32) (x2 : Int64) (x4 : Int32) (σ : aSt) (o : Int64 × aSt) (h : f_X1_choose_16_b rec16 x0 x1 x2 x4 σ = some o) : AW true m_X1_choose 16 [(0, Value.int (x0)), (1, Value.int (x1)), (2, Value.long (x2)), (4, Value.int (x4))] [] σ 0 0 (some (.long o.1)) o.2 := by
  unfold f_X1_choose_16_b at h
  refine w_iload 3 dX1_choose_16 rfl ?_
  refine w_iload_n 1 dX1_choose_18 rfl rfl ?_
  refine w_icmp_gt 42 dX1_choose_19 (by decide) (fun c3 => ?_) (fun c3 => ?_)
  · replace h := e_t c3 h
    refine w_lload_n 2 dX1_choose_42 rfl rfl ?_
    obtain rfl := Option.some.inj h
    exact w_lreturn dX1_choose_43 rfl (Nat.le_of_ble_eq_true rfl) (Nat.le_of_ble_eq_true rfl)
  · replace h := e_f c3 h
    refine w_lload_n 2 dX1_choose_22 rfl rfl ?_
    refine w_iload_n 0 dX1_choose_23 rfl rfl ?_
    refine w_iload_n 1 dX1_choose_24 rfl rfl ?_
    refine w_isub dX1_choose_25 ?_
    refine w_iload 3 dX1_choose_26 rfl ?_
    refine w_iadd dX1_choose_28 ?_
    refine w_i2l dX1_choose_29 ?_
    refine w_lmul dX1_choose_30 ?_
    refine w_iload 3 dX1_choose_31 rfl ?_
    refine w_i2l dX1_choose_33 ?_
    replace h := e_grd h; obtain ⟨g4, h⟩ := h
    refine w_ldiv dX1_choose_34 g4 ?_
    refine w_lstore_n dX1_choose_35 rfl (by decide) rfl ?_
    refine w_iinc (q := 3) (v := x4 + 1) dX1_choose_36 rfl rfl (by decide) rfl ?_
    refine w_goto 16 dX1_choose_39 (by decide) ?_
    refine w_sub [2, 3, 1, 0] rfl ?_
    exact hrec16 _ _ _ _ _ _ h
theorem l_X1_choose_16  : ∀ (n : Nat) (x0 : Int32) (x1 : Int32) (x2 : Int64) (x4 : Int32) (σ : aSt) (o : Int64 × aSt), f_X1_choose_16  n x0 x1 x2 x4 σ = some o → AW true m_X1_choose 16 [(0, Value.int (x0)), (1, Value.int (x1)), (2, Value.long (x2)), (4, Value.int (x4))] [] σ 0 0 (some (.long o.1)) o.2
  | 0 => fun x0 x1 x2 x4 σ o h => by cases h
  | n + 1 => fun x0 x1 x2 x4 σ o h => l_X1_choose_16_b (f_X1_choose_16  n) (l_X1_choose_16  n) x0 x1 x2 x4 σ o h
set_option maxRecDepth 100000 in
set_option maxHeartbeats 4000000 in
theorem c_X1_choose (p0 : Int32) (p1 : Int32) (σ : aSt) (o : Int64 × aSt) (h : f_X1_choose p0 p1 σ = some o) : AM true m_X1_choose [.int (p0), .int (p1)] σ (some (.long o.1)) o.2 := by
  refine AM_of2 (lv := [(0, Value.int (p0)), (1, Value.int (p1))]) (by decide +kernel) rfl (Nat.le_of_ble_eq_true rfl) ?_
  unfold f_X1_choose at h
  refine w_iload_n 1 dX1_choose_0 rfl rfl ?_
  refine w_if_lt 9 dX1_choose_1 (by decide) (fun c1 => ?_) (fun c1 => ?_)
  · replace h := e_t c1 h
    refine w_sub [] rfl ?_
    exact l_X1_choose_9 _ _ h
  · replace h := e_f c1 h
    refine w_iload_n 1 dX1_choose_4 rfl rfl ?_
    refine w_iload_n 0 dX1_choose_5 rfl rfl ?_
    refine w_icmp_le 11 dX1_choose_6 (by decide) (fun c2 => ?_) (fun c2 => ?_)
    · replace h := e_t c2 h
      refine w_lconst (v := 1) dX1_choose_11 (by decide) ?_
      refine w_lstore_n dX1_choose_12 rfl (by decide) rfl ?_
      refine w_iconst (v := 1) dX1_choose_13 (by decide) ?_
      refine w_istore dX1_choose_14 (by decide) rfl ?_
      refine w_sub [2, 3, 1, 0] rfl ?_
      exact l_X1_choose_16 aN _ _ _ _ _ _ h
    · replace h := e_f c2 h
      refine w_sub [] rfl ?_
      exact l_X1_choose_9 _ _ h
theorem dX1_waysAsFar_0 : decode cX1_waysAsFar 0 = .ok (.aload_n 0, 1) := by decide +kernel
theorem dX1_waysAsFar_1 : decode cX1_waysAsFar 1 = .ok (.getfield 16, 3) := by decide +kernel
theorem dX1_waysAsFar_4 : decode cX1_waysAsFar 4 = .ok (.aload_n 0, 1) := by decide +kernel
theorem dX1_waysAsFar_5 : decode cX1_waysAsFar 5 = .ok (.getfield 19, 3) := by decide +kernel
theorem dX1_waysAsFar_8 : decode cX1_waysAsFar 8 = .ok (.iadd, 1) := by decide +kernel
theorem dX1_waysAsFar_9 : decode cX1_waysAsFar 9 = .ok (.istore_n 1, 1) := by decide +kernel
theorem dX1_waysAsFar_10 : decode cX1_waysAsFar 10 = .ok (.aload_n 0, 1) := by decide +kernel
theorem dX1_waysAsFar_11 : decode cX1_waysAsFar 11 = .ok (.getfield 7, 3) := by decide +kernel
theorem dX1_waysAsFar_14 : decode cX1_waysAsFar 14 = .ok (.aload_n 0, 1) := by decide +kernel
theorem dX1_waysAsFar_15 : decode cX1_waysAsFar 15 = .ok (.getfield 13, 3) := by decide +kernel
theorem dX1_waysAsFar_18 : decode cX1_waysAsFar 18 = .ok (.iadd, 1) := by decide +kernel
theorem dX1_waysAsFar_19 : decode cX1_waysAsFar 19 = .ok (.iload_n 1, 1) := by decide +kernel
theorem dX1_waysAsFar_20 : decode cX1_waysAsFar 20 = .ok (.isub, 1) := by decide +kernel
theorem dX1_waysAsFar_21 : decode cX1_waysAsFar 21 = .ok (.istore_n 2, 1) := by decide +kernel
theorem dX1_waysAsFar_22 : decode cX1_waysAsFar 22 = .ok (.aload_n 0, 1) := by decide +kernel
theorem dX1_waysAsFar_23 : decode cX1_waysAsFar 23 = .ok (.aload_n 0, 1) := by decide +kernel
theorem dX1_waysAsFar_24 : decode cX1_waysAsFar 24 = .ok (.getfield 16, 3) := by decide +kernel
theorem dX1_waysAsFar_27 : decode cX1_waysAsFar 27 = .ok (.aload_n 0, 1) := by decide +kernel
theorem dX1_waysAsFar_28 : decode cX1_waysAsFar 28 = .ok (.getfield 19, 3) := by decide +kernel
theorem dX1_waysAsFar_31 : decode cX1_waysAsFar 31 = .ok (.invokevirtual 47, 3) := by decide +kernel
theorem dX1_waysAsFar_34 : decode cX1_waysAsFar 34 = .ok (.istore_n 3, 1) := by decide +kernel
theorem dX1_waysAsFar_35 : decode cX1_waysAsFar 35 = .ok (.lconst 0, 1) := by decide +kernel
theorem dX1_waysAsFar_36 : decode cX1_waysAsFar 36 = .ok (.lstore 4, 2) := by decide +kernel
theorem dX1_waysAsFar_38 : decode cX1_waysAsFar 38 = .ok (.iconst 0, 1) := by decide +kernel
theorem dX1_waysAsFar_39 : decode cX1_waysAsFar 39 = .ok (.istore 6, 2) := by decide +kernel
theorem dX1_waysAsFar_41 : decode cX1_waysAsFar 41 = .ok (.iload 6, 2) := by decide +kernel
theorem dX1_waysAsFar_43 : decode cX1_waysAsFar 43 = .ok (.iload_n 1, 1) := by decide +kernel
theorem dX1_waysAsFar_44 : decode cX1_waysAsFar 44 = .ok (.if_icmp .gt 46, 3) := by decide +kernel
theorem dX1_waysAsFar_47 : decode cX1_waysAsFar 47 = .ok (.aload_n 0, 1) := by decide +kernel
theorem dX1_waysAsFar_48 : decode cX1_waysAsFar 48 = .ok (.iload 6, 2) := by decide +kernel
theorem dX1_waysAsFar_50 : decode cX1_waysAsFar 50 = .ok (.iload_n 1, 1) := by decide +kernel
theorem dX1_waysAsFar_51 : decode cX1_waysAsFar 51 = .ok (.iload 6, 2) := by decide +kernel
theorem dX1_waysAsFar_53 : decode cX1_waysAsFar 53 = .ok (.isub, 1) := by decide +kernel
theorem dX1_waysAsFar_54 : decode cX1_waysAsFar 54 = .ok (.invokevirtual 47, 3) := by decide +kernel
theorem dX1_waysAsFar_57 : decode cX1_waysAsFar 57 = .ok (.iload_n 3, 1) := by decide +kernel
theorem dX1_waysAsFar_58 : decode cX1_waysAsFar 58 = .ok (.if_icmp .lt 26, 3) := by decide +kernel
theorem dX1_waysAsFar_61 : decode cX1_waysAsFar 61 = .ok (.lload 4, 2) := by decide +kernel
theorem dX1_waysAsFar_63 : decode cX1_waysAsFar 63 = .ok (.iload_n 1, 1) := by decide +kernel
theorem dX1_waysAsFar_64 : decode cX1_waysAsFar 64 = .ok (.iload 6, 2) := by decide +kernel
theorem dX1_waysAsFar_66 : decode cX1_waysAsFar 66 = .ok (.invokestatic 43, 3) := by decide +kernel
theorem dX1_waysAsFar_69 : decode cX1_waysAsFar 69 = .ok (.iload_n 2, 1) := by decide +kernel
theorem dX1_waysAsFar_70 : decode cX1_waysAsFar 70 = .ok (.aload_n 0, 1) := by decide +kernel
theorem dX1_waysAsFar_71 : decode cX1_waysAsFar 71 = .ok (.getfield 7, 3) := by decide +kernel
theorem dX1_waysAsFar_74 : decode cX1_waysAsFar 74 = .ok (.iload 6, 2) := by decide +kernel
theorem dX1_waysAsFar_76 : decode cX1_waysAsFar 76 = .ok (.isub, 1) := by decide +kernel
theorem dX1_waysAsFar_77 : decode cX1_waysAsFar 77 = .ok (.invokestatic 43, 3) := by decide +kernel
theorem dX1_waysAsFar_80 : decode cX1_waysAsFar 80 = .ok (.lmul, 1) := by decide +kernel
theorem dX1_waysAsFar_81 : decode cX1_waysAsFar 81 = .ok (.ladd, 1) := by decide +kernel
theorem dX1_waysAsFar_82 : decode cX1_waysAsFar 82 = .ok (.lstore 4, 2) := by decide +kernel
theorem dX1_waysAsFar_84 : decode cX1_waysAsFar 84 = .ok (.iinc 6 1, 3) := by decide +kernel
theorem dX1_waysAsFar_87 : decode cX1_waysAsFar 87 = .ok (.goto (-46), 3) := by decide +kernel
theorem dX1_waysAsFar_90 : decode cX1_waysAsFar 90 = .ok (.lload 4, 2) := by decide +kernel
theorem dX1_waysAsFar_92 : decode cX1_waysAsFar 92 = .ok (.lreturn, 1) := by decide +kernel
theorem kd_X1_waysAsFar : aKd m_X1_waysAsFar 0 := ⟨wd_46_4, wd_2_13, ⟨by decide +kernel, by decide +kernel, by decide +kernel⟩⟩
set_option maxRecDepth 100000 in
set_option maxHeartbeats 4000000 in
theorem l_X1_waysAsFar_84 (rec41 : Int32 → Int32 → Int32 → Int64 → Int32 → aSt → Option (Int64 × aSt)) (hrec41 : ∀ (x1 : Int32) (x2 : Int32) (x3 : Int32) (x4 : Int64) (x6 : Int32) (σ : aSt) (o : Int64 × aSt), rec41 x1 x2 x3 x4 x6 σ = some o → AW true m_X1_waysAsFar 41 [(0, va_rf (some (31))), (1, Value.int (x1)), (2, Value.int (x2)), (3, Value.int (x3)), (4, Value.long (x4)), (6, Value.int (x6))] [] σ 0 0 (some (.long o.1)) o.2) (x1 : Int32) (x2 : Int32) (x3 : Int32) (x4 : Int64) (x6 : Int32) (σ : aSt) (o : Int64 × aSt) (h : f_X1_waysAsFar_84 rec41 x1 x2 x3 x4 x6 σ = some o) : AW true m_X1_waysAsFar 84 [(0, va_rf (some (31))), (1, Value.int (x1)), (2, Value.int (x2)), (3, Value.int (x3)), (4, Value.long (x4)), (6, Value.int (x6))] [] σ 0 0 (some (.long o.1)) o.2 := by
  unfold f_X1_waysAsFar_84 at h
  refine w_iinc (q := 5) (v := x6 + 1) dX1_waysAsFar_84 rfl rfl (by decide) rfl ?_
  refine w_goto 41 dX1_waysAsFar_87 (by decide) ?_
  refine w_sub [1, 2, 3, 4, 5, 0] rfl ?_
  exact hrec41 _ _ _ _ _ _ _ h
set_option maxRecDepth 100000 in
set_option maxHeartbeats 4000000 in
theorem l_X1_waysAsFar_41_b (rec41 : Int32 → Int32 → Int32 → Int64 → Int32 → aSt → Option (Int64 × aSt)) (hrec41 : ∀ (x1 : Int32) (x2 : Int32) (x3 : Int32) (x4 : Int64) (x6 : Int32) (σ : aSt) (o : Int64 × aSt), rec41 x1 x2 x3 x4 x6 σ = some o → AW true m_X1_waysAsFar 41 [(0, va_rf (some (31))), (1, Value.int (x1)), (2, Value.int (x2)), (3, Value.int (x3)), (4, Value.long (x4)), (6, Value.int (x6))] [] σ 0 0 (some (.long o.1)) o.2) (x1 : Int32) (x2 : Int32) (x3 : Int32) (x4 : Int64) (x6 : Int32) (σ : aSt) (o : Int64 × aSt) (h : f_X1_waysAsFar_41_b rec41 x1 x2 x3 x4 x6 σ = some o) : AW true m_X1_waysAsFar 41 [(0, va_rf (some (31))), (1, Value.int (x1)), (2, Value.int (x2)), (3, Value.int (x3)), (4, Value.long (x4)), (6, Value.int (x6))] [] σ 0 0 (some (.long o.1)) o.2 := by
  unfold f_X1_waysAsFar_41_b at h
  refine w_iload 5 dX1_waysAsFar_41 rfl ?_
  refine w_iload_n 1 dX1_waysAsFar_43 rfl rfl ?_
  refine w_icmp_gt 90 dX1_waysAsFar_44 (by decide) (fun c3 => ?_) (fun c3 => ?_)
  · replace h := e_t c3 h
    refine w_lload 4 dX1_waysAsFar_90 rfl ?_
    obtain rfl := Option.some.inj h
    exact w_lreturn dX1_waysAsFar_92 rfl (Nat.le_of_ble_eq_true rfl) (Nat.le_of_ble_eq_true rfl)
  · replace h := e_f c3 h
    refine w_aload_n 0 ((some (31))) dX1_waysAsFar_47 rfl rfl ?_
    refine w_iload 5 dX1_waysAsFar_48 rfl ?_
    refine w_iload_n 1 dX1_waysAsFar_50 rfl rfl ?_
    refine w_iload 5 dX1_waysAsFar_51 rfl ?_
    refine w_isub dX1_waysAsFar_53 ?_
    replace h := e_bind h; obtain ⟨q4, e5, h⟩ := h
    refine w_callV1 (M2 := m_X1_apart) (av := [.int (x6), .int (x1 - x6)]) (ci := 1) (c_X1_apart _ _ _ _ e5) dX1_waysAsFar_54 kd_X1_apart wd_46_5 wd_46_6 wd_46_7 rfl rfl ⟨rfl, Or.inr ⟨rfl, by decide⟩⟩ rfl ⟨Nat.le_of_ble_eq_true rfl, Nat.le_of_ble_eq_true rfl, Nat.le_of_ble_eq_true rfl, Nat.le_of_ble_eq_true rfl⟩ (Nat.le_of_ble_eq_true rfl) ?_
    refine w_iload_n 3 dX1_waysAsFar_57 rfl rfl ?_
    refine w_icmp_lt 84 dX1_waysAsFar_58 (by decide) (fun c6 => ?_) (fun c6 => ?_)
    · replace h := e_t c6 h
      exact l_X1_waysAsFar_84 rec41 hrec41 _ _ _ _ _ _ _ h
    · replace h := e_f c6 h
      refine w_lload 4 dX1_waysAsFar_61 rfl ?_
      refine w_iload_n 1 dX1_waysAsFar_63 rfl rfl ?_
      refine w_iload 5 dX1_waysAsFar_64 rfl ?_
      replace h := e_bind h; obtain ⟨q7, e8, h⟩ := h
      refine w_callS1 (M2 := m_X1_choose) (av := [.int (x1), .int (x6)]) (c_X1_choose _ _ _ _ e8) dX1_waysAsFar_66 kd_X1_choose wd_46_12 wd_46_13 rfl rfl ⟨Nat.le_of_ble_eq_true rfl, Nat.le_of_ble_eq_true rfl, Nat.le_of_ble_eq_true rfl, Nat.le_of_ble_eq_true rfl⟩ (Nat.le_of_ble_eq_true rfl) ?_
      refine w_iload_n 2 dX1_waysAsFar_69 rfl rfl ?_
      refine w_aload_n 0 ((some (31))) dX1_waysAsFar_70 rfl rfl ?_
      refine w_get dX1_waysAsFar_71 fl_RX1_7 ⟨rfl, Or.inr ⟨rfl, by decide⟩⟩ (aFv_i rfl) ?_
      refine w_iload 5 dX1_waysAsFar_74 rfl ?_
      refine w_isub dX1_waysAsFar_76 ?_
      replace h := e_bind h; obtain ⟨q9, e10, h⟩ := h
      refine w_callS1 (M2 := m_X1_choose) (av := [.int (x2), .int ((gI q7.2 31 0) - x6)]) (c_X1_choose _ _ _ _ e10) dX1_waysAsFar_77 kd_X1_choose wd_46_12 wd_46_13 rfl rfl ⟨Nat.le_of_ble_eq_true rfl, Nat.le_of_ble_eq_true rfl, Nat.le_of_ble_eq_true rfl, Nat.le_of_ble_eq_true rfl⟩ (Nat.le_of_ble_eq_true rfl) ?_
      refine w_lmul dX1_waysAsFar_80 ?_
      refine w_ladd dX1_waysAsFar_81 ?_
      refine w_lstore dX1_waysAsFar_82 (by decide) rfl ?_
      refine w_sub [1, 2, 3, 4, 0, 5] rfl ?_
      exact l_X1_waysAsFar_84 rec41 hrec41 _ _ _ _ _ _ _ h
theorem l_X1_waysAsFar_41  : ∀ (n : Nat) (x1 : Int32) (x2 : Int32) (x3 : Int32) (x4 : Int64) (x6 : Int32) (σ : aSt) (o : Int64 × aSt), f_X1_waysAsFar_41  n x1 x2 x3 x4 x6 σ = some o → AW true m_X1_waysAsFar 41 [(0, va_rf (some (31))), (1, Value.int (x1)), (2, Value.int (x2)), (3, Value.int (x3)), (4, Value.long (x4)), (6, Value.int (x6))] [] σ 0 0 (some (.long o.1)) o.2
  | 0 => fun x1 x2 x3 x4 x6 σ o h => by cases h
  | n + 1 => fun x1 x2 x3 x4 x6 σ o h => l_X1_waysAsFar_41_b (f_X1_waysAsFar_41  n) (l_X1_waysAsFar_41  n) x1 x2 x3 x4 x6 σ o h
set_option maxRecDepth 100000 in
set_option maxHeartbeats 4000000 in
theorem c_X1_waysAsFar  (σ : aSt) (o : Int64 × aSt) (h : f_X1_waysAsFar  σ = some o) : AM true m_X1_waysAsFar [va_rf (some (31))] σ (some (.long o.1)) o.2 := by
  refine AM_of2 (lv := [(0, va_rf (some (31)))]) (by decide +kernel) rfl (Nat.le_of_ble_eq_true rfl) ?_
  unfold f_X1_waysAsFar at h
  refine w_aload_n 0 ((some (31))) dX1_waysAsFar_0 rfl rfl ?_
  refine w_get dX1_waysAsFar_1 fl_RX1_16 ⟨rfl, Or.inr ⟨rfl, by decide⟩⟩ (aFv_i rfl) ?_
  refine w_aload_n 0 ((some (31))) dX1_waysAsFar_4 rfl rfl ?_
  refine w_get dX1_waysAsFar_5 fl_RX1_19 ⟨rfl, Or.inr ⟨rfl, by decide⟩⟩ (aFv_i rfl) ?_
  refine w_iadd dX1_waysAsFar_8 ?_
  refine w_istore_n dX1_waysAsFar_9 rfl (by decide) rfl ?_
  refine w_aload_n 1 ((some (31))) dX1_waysAsFar_10 rfl rfl ?_
  refine w_get dX1_waysAsFar_11 fl_RX1_7 ⟨rfl, Or.inr ⟨rfl, by decide⟩⟩ (aFv_i rfl) ?_
  refine w_aload_n 1 ((some (31))) dX1_waysAsFar_14 rfl rfl ?_
  refine w_get dX1_waysAsFar_15 fl_RX1_13 ⟨rfl, Or.inr ⟨rfl, by decide⟩⟩ (aFv_i rfl) ?_
  refine w_iadd dX1_waysAsFar_18 ?_
  refine w_iload_n 0 dX1_waysAsFar_19 rfl rfl ?_
  refine w_isub dX1_waysAsFar_20 ?_
  refine w_istore_n dX1_waysAsFar_21 rfl (by decide) rfl ?_
  refine w_aload_n 2 ((some (31))) dX1_waysAsFar_22 rfl rfl ?_
  refine w_aload_n 2 ((some (31))) dX1_waysAsFar_23 rfl rfl ?_
  refine w_get dX1_waysAsFar_24 fl_RX1_16 ⟨rfl, Or.inr ⟨rfl, by decide⟩⟩ (aFv_i rfl) ?_
  refine w_aload_n 2 ((some (31))) dX1_waysAsFar_27 rfl rfl ?_
  refine w_get dX1_waysAsFar_28 fl_RX1_19 ⟨rfl, Or.inr ⟨rfl, by decide⟩⟩ (aFv_i rfl) ?_
  replace h := e_bind h; obtain ⟨q1, e2, h⟩ := h
  refine w_callV1 (M2 := m_X1_apart) (av := [.int (gI σ 31 2), .int (gI σ 31 3)]) (ci := 1) (c_X1_apart _ _ _ _ e2) dX1_waysAsFar_31 kd_X1_apart wd_46_5 wd_46_6 wd_46_7 rfl rfl ⟨rfl, Or.inr ⟨rfl, by decide⟩⟩ rfl ⟨Nat.le_of_ble_eq_true rfl, Nat.le_of_ble_eq_true rfl, Nat.le_of_ble_eq_true rfl, Nat.le_of_ble_eq_true rfl⟩ (Nat.le_of_ble_eq_true rfl) ?_
  refine w_istore_n dX1_waysAsFar_34 rfl (by decide) rfl ?_
  refine w_lconst (v := 0) dX1_waysAsFar_35 (by decide) ?_
  refine w_lstore dX1_waysAsFar_36 (by decide) rfl ?_
  refine w_iconst (v := 0) dX1_waysAsFar_38 (by decide) ?_
  refine w_istore dX1_waysAsFar_39 (by decide) rfl ?_
  refine w_sub [5, 4, 3, 2, 1, 0] rfl ?_
  exact l_X1_waysAsFar_41 aN _ _ _ _ _ _ _ h
theorem dX1_tell_0 : decode cX1_tell 0 = .ok (.iload_n 1, 1) := by decide +kernel
theorem dX1_tell_1 : decode cX1_tell 1 = .ok (.tableswitch 75 0 4 #[35, 40, 57, 63, 69], 35) := by decide +kernel
theorem dX1_tell_36 : decode cX1_tell 36 = .ok (.aload_n 0, 1) := by decide +kernel
theorem dX1_tell_37 : decode cX1_tell 37 = .ok (.invokevirtual 39, 3) := by decide +kernel
theorem dX1_tell_40 : decode cX1_tell 40 = .ok (.lreturn, 1) := by decide +kernel
theorem dX1_tell_41 : decode cX1_tell 41 = .ok (.aload_n 0, 1) := by decide +kernel
theorem dX1_tell_42 : decode cX1_tell 42 = .ok (.getfield 7, 3) := by decide +kernel
theorem dX1_tell_45 : decode cX1_tell 45 = .ok (.aload_n 0, 1) := by decide +kernel
theorem dX1_tell_46 : decode cX1_tell 46 = .ok (.getfield 13, 3) := by decide +kernel
theorem dX1_tell_49 : decode cX1_tell 49 = .ok (.iadd, 1) := by decide +kernel
theorem dX1_tell_50 : decode cX1_tell 50 = .ok (.aload_n 0, 1) := by decide +kernel
theorem dX1_tell_51 : decode cX1_tell 51 = .ok (.getfield 7, 3) := by decide +kernel
theorem dX1_tell_54 : decode cX1_tell 54 = .ok (.invokestatic 43, 3) := by decide +kernel
theorem dX1_tell_57 : decode cX1_tell 57 = .ok (.lreturn, 1) := by decide +kernel
theorem dX1_tell_58 : decode cX1_tell 58 = .ok (.aload_n 0, 1) := by decide +kernel
theorem dX1_tell_59 : decode cX1_tell 59 = .ok (.getfield 7, 3) := by decide +kernel
theorem dX1_tell_62 : decode cX1_tell 62 = .ok (.i2l, 1) := by decide +kernel
theorem dX1_tell_63 : decode cX1_tell 63 = .ok (.lreturn, 1) := by decide +kernel
theorem dX1_tell_64 : decode cX1_tell 64 = .ok (.aload_n 0, 1) := by decide +kernel
theorem dX1_tell_65 : decode cX1_tell 65 = .ok (.getfield 16, 3) := by decide +kernel
theorem dX1_tell_68 : decode cX1_tell 68 = .ok (.i2l, 1) := by decide +kernel
theorem dX1_tell_69 : decode cX1_tell 69 = .ok (.lreturn, 1) := by decide +kernel
theorem dX1_tell_70 : decode cX1_tell 70 = .ok (.aload_n 0, 1) := by decide +kernel
theorem dX1_tell_71 : decode cX1_tell 71 = .ok (.getfield 13, 3) := by decide +kernel
theorem dX1_tell_74 : decode cX1_tell 74 = .ok (.i2l, 1) := by decide +kernel
theorem dX1_tell_75 : decode cX1_tell 75 = .ok (.lreturn, 1) := by decide +kernel
theorem dX1_tell_76 : decode cX1_tell 76 = .ok (.aload_n 0, 1) := by decide +kernel
theorem dX1_tell_77 : decode cX1_tell 77 = .ok (.getfield 19, 3) := by decide +kernel
theorem dX1_tell_80 : decode cX1_tell 80 = .ok (.i2l, 1) := by decide +kernel
theorem dX1_tell_81 : decode cX1_tell 81 = .ok (.lreturn, 1) := by decide +kernel
theorem kd_X1_tell : aKd m_X1_tell 1 := ⟨wd_46_0, wd_2_13, ⟨by decide +kernel, by decide +kernel, by decide +kernel⟩⟩
set_option maxRecDepth 100000 in
set_option maxHeartbeats 4000000 in
theorem c_X1_tell (p1 : Int32) (σ : aSt) (o : Int64 × aSt) (h : f_X1_tell p1 σ = some o) : AM true m_X1_tell [va_rf (some (31)), .int (p1)] σ (some (.long o.1)) o.2 := by
  refine AM_of2 (lv := [(0, va_rf (some (31))), (1, Value.int (p1))]) (by decide +kernel) rfl (Nat.le_of_ble_eq_true rfl) ?_
  unfold f_X1_tell at h
  refine w_iload_n 1 dX1_tell_0 rfl rfl ?_
  replace h := e_ite h; rcases h with ⟨c1, h⟩ | ⟨c1, h⟩
  · subst c1
    refine w_tabIn (off := 35) 36 dX1_tell_1 (by decide) (by decide) (by decide +kernel) (by decide) ?_
    refine w_aload_n 0 ((some (31))) dX1_tell_36 rfl rfl ?_
    replace h := e_bind h; obtain ⟨q2, e3, h⟩ := h
    refine w_callV1 (M2 := m_X1_waysAsFar) (av := []) (ci := 1) (c_X1_waysAsFar  _ _ e3) dX1_tell_37 kd_X1_waysAsFar wd_46_1 wd_46_2 wd_46_3 rfl rfl ⟨rfl, Or.inr ⟨rfl, by decide⟩⟩ rfl ⟨Nat.le_of_ble_eq_true rfl, Nat.le_of_ble_eq_true rfl, Nat.le_of_ble_eq_true rfl, Nat.le_of_ble_eq_true rfl⟩ (Nat.le_of_ble_eq_true rfl) ?_
    obtain rfl := Option.some.inj h
    exact w_lreturn dX1_tell_40 rfl (Nat.le_of_ble_eq_true rfl) (Nat.le_of_ble_eq_true rfl)
  · replace h := e_ite h; rcases h with ⟨c4, h⟩ | ⟨c4, h⟩
    · subst c4
      refine w_tabIn (off := 40) 41 dX1_tell_1 (by decide) (by decide) (by decide +kernel) (by decide) ?_
      refine w_aload_n 0 ((some (31))) dX1_tell_41 rfl rfl ?_
      refine w_get dX1_tell_42 fl_RX1_7 ⟨rfl, Or.inr ⟨rfl, by decide⟩⟩ (aFv_i rfl) ?_
      refine w_aload_n 0 ((some (31))) dX1_tell_45 rfl rfl ?_
      refine w_get dX1_tell_46 fl_RX1_13 ⟨rfl, Or.inr ⟨rfl, by decide⟩⟩ (aFv_i rfl) ?_
      refine w_iadd dX1_tell_49 ?_
      refine w_aload_n 0 ((some (31))) dX1_tell_50 rfl rfl ?_
      refine w_get dX1_tell_51 fl_RX1_7 ⟨rfl, Or.inr ⟨rfl, by decide⟩⟩ (aFv_i rfl) ?_
      replace h := e_bind h; obtain ⟨q5, e6, h⟩ := h
      refine w_callS1 (M2 := m_X1_choose) (av := [.int ((gI σ 31 0) + (gI σ 31 1)), .int (gI σ 31 0)]) (c_X1_choose _ _ _ _ e6) dX1_tell_54 kd_X1_choose wd_46_12 wd_46_13 rfl rfl ⟨Nat.le_of_ble_eq_true rfl, Nat.le_of_ble_eq_true rfl, Nat.le_of_ble_eq_true rfl, Nat.le_of_ble_eq_true rfl⟩ (Nat.le_of_ble_eq_true rfl) ?_
      obtain rfl := Option.some.inj h
      exact w_lreturn dX1_tell_57 rfl (Nat.le_of_ble_eq_true rfl) (Nat.le_of_ble_eq_true rfl)
    · replace h := e_ite h; rcases h with ⟨c7, h⟩ | ⟨c7, h⟩
      · subst c7
        refine w_tabIn (off := 57) 58 dX1_tell_1 (by decide) (by decide) (by decide +kernel) (by decide) ?_
        refine w_aload_n 0 ((some (31))) dX1_tell_58 rfl rfl ?_
        refine w_get dX1_tell_59 fl_RX1_7 ⟨rfl, Or.inr ⟨rfl, by decide⟩⟩ (aFv_i rfl) ?_
        refine w_i2l dX1_tell_62 ?_
        obtain rfl := Option.some.inj h
        exact w_lreturn dX1_tell_63 rfl (Nat.le_of_ble_eq_true rfl) (Nat.le_of_ble_eq_true rfl)
      · replace h := e_ite h; rcases h with ⟨c8, h⟩ | ⟨c8, h⟩
        · subst c8
          refine w_tabIn (off := 63) 64 dX1_tell_1 (by decide) (by decide) (by decide +kernel) (by decide) ?_
          refine w_aload_n 0 ((some (31))) dX1_tell_64 rfl rfl ?_
          refine w_get dX1_tell_65 fl_RX1_16 ⟨rfl, Or.inr ⟨rfl, by decide⟩⟩ (aFv_i rfl) ?_
          refine w_i2l dX1_tell_68 ?_
          obtain rfl := Option.some.inj h
          exact w_lreturn dX1_tell_69 rfl (Nat.le_of_ble_eq_true rfl) (Nat.le_of_ble_eq_true rfl)
        · replace h := e_ite h; rcases h with ⟨c9, h⟩ | ⟨c9, h⟩
          · subst c9
            refine w_tabIn (off := 69) 70 dX1_tell_1 (by decide) (by decide) (by decide +kernel) (by decide) ?_
            refine w_aload_n 0 ((some (31))) dX1_tell_70 rfl rfl ?_
            refine w_get dX1_tell_71 fl_RX1_13 ⟨rfl, Or.inr ⟨rfl, by decide⟩⟩ (aFv_i rfl) ?_
            refine w_i2l dX1_tell_74 ?_
            obtain rfl := Option.some.inj h
            exact w_lreturn dX1_tell_75 rfl (Nat.le_of_ble_eq_true rfl) (Nat.le_of_ble_eq_true rfl)
          · refine w_tabOut 76 dX1_tell_1 (by have zc1 := lv_neT (a := 0) c1 (by decide); have zc4 := lv_neT (a := 1) c4 (by decide); have zc7 := lv_neT (a := 2) c7 (by decide); have zc8 := lv_neT (a := 3) c8 (by decide); have zc9 := lv_neT (a := 4) c9 (by decide); omega) (by decide) ?_
            refine w_aload_n 0 ((some (31))) dX1_tell_76 rfl rfl ?_
            refine w_get dX1_tell_77 fl_RX1_19 ⟨rfl, Or.inr ⟨rfl, by decide⟩⟩ (aFv_i rfl) ?_
            refine w_i2l dX1_tell_80 ?_
            obtain rfl := Option.some.inj h
            exact w_lreturn dX1_tell_81 rfl (Nat.le_of_ble_eq_true rfl) (Nat.le_of_ble_eq_true rfl)
theorem dX11_drift_0 : decode cX11_drift 0 = .ok (.iload_n 1, 1) := by decide +kernel
theorem dX11_drift_1 : decode cX11_drift 1 = .ok (.iconst 0, 1) := by decide +kernel
theorem dX11_drift_2 : decode cX11_drift 2 = .ok (.iconst 3, 1) := by decide +kernel
theorem dX11_drift_3 : decode cX11_drift 3 = .ok (.invokestatic 89, 3) := by decide +kernel
theorem dX11_drift_6 : decode cX11_drift 6 = .ok (.ifCond .eq 13, 3) := by decide +kernel
theorem dX11_drift_9 : decode cX11_drift 9 = .ok (.iload 5, 2) := by decide +kernel
theorem dX11_drift_11 : decode cX11_drift 11 = .ok (.iconst 0, 1) := by decide +kernel
theorem dX11_drift_12 : decode cX11_drift 12 = .ok (.iconst 5, 1) := by decide +kernel
theorem dX11_drift_13 : decode cX11_drift 13 = .ok (.invokestatic 89, 3) := by decide +kernel
theorem dX11_drift_16 : decode cX11_drift 16 = .ok (.ifCond .ne 7, 3) := by decide +kernel
theorem dX11_drift_19 : decode cX11_drift 19 = .ok (.ldc2_w 265, 3) := by decide +kernel
theorem dX11_drift_22 : decode cX11_drift 22 = .ok (.lreturn, 1) := by decide +kernel
theorem dX11_drift_23 : decode cX11_drift 23 = .ok (.iload_n 2, 1) := by decide +kernel
theorem dX11_drift_24 : decode cX11_drift 24 = .ok (.iload_n 3, 1) := by decide +kernel
theorem dX11_drift_25 : decode cX11_drift 25 = .ok (.invokestatic 293, 3) := by decide +kernel
theorem dX11_drift_28 : decode cX11_drift 28 = .ok (.ifCond .eq 12, 3) := by decide +kernel
theorem dX11_drift_31 : decode cX11_drift 31 = .ok (.iload_n 3, 1) := by decide +kernel
theorem dX11_drift_32 : decode cX11_drift 32 = .ok (.iload 4, 2) := by decide +kernel
theorem dX11_drift_34 : decode cX11_drift 34 = .ok (.invokestatic 293, 3) := by decide +kernel
theorem dX11_drift_37 : decode cX11_drift 37 = .ok (.ifCond .ne 7, 3) := by decide +kernel
theorem dX11_drift_40 : decode cX11_drift 40 = .ok (.ldc2_w 265, 3) := by decide +kernel
theorem dX11_drift_43 : decode cX11_drift 43 = .ok (.lreturn, 1) := by decide +kernel
theorem dX11_drift_44 : decode cX11_drift 44 = .ok (.aload_n 0, 1) := by decide +kernel
theorem dX11_drift_45 : decode cX11_drift 45 = .ok (.getfield 59, 3) := by decide +kernel
theorem dX11_drift_48 : decode cX11_drift 48 = .ok (.aload_n 0, 1) := by decide +kernel
theorem dX11_drift_49 : decode cX11_drift 49 = .ok (.getfield 18, 3) := by decide +kernel
theorem dX11_drift_52 : decode cX11_drift 52 = .ok (.iload_n 1, 1) := by decide +kernel
theorem dX11_drift_53 : decode cX11_drift 53 = .ok (.iload_n 2, 1) := by decide +kernel
theorem dX11_drift_54 : decode cX11_drift 54 = .ok (.iload_n 3, 1) := by decide +kernel
theorem dX11_drift_55 : decode cX11_drift 55 = .ok (.iload 4, 2) := by decide +kernel
theorem dX11_drift_57 : decode cX11_drift 57 = .ok (.invokevirtual 296, 3) := by decide +kernel
theorem dX11_drift_60 : decode cX11_drift 60 = .ok (.aload_n 0, 1) := by decide +kernel
theorem dX11_drift_61 : decode cX11_drift 61 = .ok (.getfield 59, 3) := by decide +kernel
theorem dX11_drift_64 : decode cX11_drift 64 = .ok (.getfield 300, 3) := by decide +kernel
theorem dX11_drift_67 : decode cX11_drift 67 = .ok (.aload_n 0, 1) := by decide +kernel
theorem dX11_drift_68 : decode cX11_drift 68 = .ok (.getfield 59, 3) := by decide +kernel
theorem dX11_drift_71 : decode cX11_drift 71 = .ok (.getfield 303, 3) := by decide +kernel
theorem dX11_drift_74 : decode cX11_drift 74 = .ok (.iadd, 1) := by decide +kernel
theorem dX11_drift_75 : decode cX11_drift 75 = .ok (.bipush 40, 2) := by decide +kernel
theorem dX11_drift_77 : decode cX11_drift 77 = .ok (.if_icmp .le 9, 3) := by decide +kernel
theorem dX11_drift_80 : decode cX11_drift 80 = .ok (.ldc2_w 306, 3) := by decide +kernel
theorem dX11_drift_83 : decode cX11_drift 83 = .ok (.goto 12, 3) := by decide +kernel
theorem dX11_drift_86 : decode cX11_drift 86 = .ok (.aload_n 0, 1) := by decide +kernel
theorem dX11_drift_87 : decode cX11_drift 87 = .ok (.getfield 59, 3) := by decide +kernel
theorem dX11_drift_90 : decode cX11_drift 90 = .ok (.iload 5, 2) := by decide +kernel
theorem dX11_drift_92 : decode cX11_drift 92 = .ok (.invokevirtual 308, 3) := by decide +kernel
theorem dX11_drift_95 : decode cX11_drift 95 = .ok (.lreturn, 1) := by decide +kernel
theorem kd_X11_drift : aKd m_X11_drift 5 := ⟨wd_45_5, wd_1_2, ⟨by decide +kernel, by decide +kernel, by decide +kernel⟩⟩
set_option maxRecDepth 100000 in
set_option maxHeartbeats 4000000 in
theorem l_X11_drift_19   (σ : aSt) (o : Int64 × aSt) (h : f_X11_drift_19   σ = some o) : AW true m_X11_drift 19 [] [] σ 0 0 (some (.long o.1)) o.2 := by
  unfold f_X11_drift_19 at h
  refine w_ldc2 (v := (-1000001)) dX11_drift_19 wd_40_13 ?_
  obtain rfl := Option.some.inj h
  exact w_lreturn dX11_drift_22 rfl (Nat.le_of_ble_eq_true rfl) (Nat.le_of_ble_eq_true rfl)
set_option maxRecDepth 100000 in
set_option maxHeartbeats 4000000 in
theorem l_X11_drift_40   (σ : aSt) (o : Int64 × aSt) (h : f_X11_drift_40   σ = some o) : AW true m_X11_drift 40 [] [] σ 0 0 (some (.long o.1)) o.2 := by
  unfold f_X11_drift_40 at h
  refine w_ldc2 (v := (-1000001)) dX11_drift_40 wd_40_13 ?_
  obtain rfl := Option.some.inj h
  exact w_lreturn dX11_drift_43 rfl (Nat.le_of_ble_eq_true rfl) (Nat.le_of_ble_eq_true rfl)
set_option maxRecDepth 100000 in
set_option maxHeartbeats 4000000 in
theorem l_X11_drift_95  (t0 : Int64) (σ : aSt) (o : Int64 × aSt) (h : f_X11_drift_95  t0 σ = some o) : AW true m_X11_drift 95 [] [.long (t0)] σ 0 0 (some (.long o.1)) o.2 := by
  unfold f_X11_drift_95 at h
  obtain rfl := Option.some.inj h
  exact w_lreturn dX11_drift_95 rfl (Nat.le_of_ble_eq_true rfl) (Nat.le_of_ble_eq_true rfl)
set_option maxRecDepth 100000 in
set_option maxHeartbeats 4000000 in
theorem c_X11_drift (p1 : Int32) (p2 : Int32) (p3 : Int32) (p4 : Int32) (p5 : Int32) (σ : aSt) (o : Int64 × aSt) (h : f_X11_drift p1 p2 p3 p4 p5 σ = some o) : AM true m_X11_drift [va_rf (some (0)), .int (p1), .int (p2), .int (p3), .int (p4), .int (p5)] σ (some (.long o.1)) o.2 := by
  refine AM_of2 (lv := [(0, va_rf (some (0))), (1, Value.int (p1)), (2, Value.int (p2)), (3, Value.int (p3)), (4, Value.int (p4)), (5, Value.int (p5))]) (by decide +kernel) rfl (Nat.le_of_ble_eq_true rfl) ?_
  unfold f_X11_drift at h
  refine w_iload_n 1 dX11_drift_0 rfl rfl ?_
  refine w_iconst (v := 0) dX11_drift_1 (by decide) ?_
  refine w_iconst (v := 3) dX11_drift_2 (by decide) ?_
  replace h := e_bind h; obtain ⟨q1, e2, h⟩ := h
  refine w_callS1 (M2 := m_X11_within) (av := [.int (p1), .int (0), .int (3)]) (c_X11_within _ _ _ _ _ e2) dX11_drift_3 kd_X11_within wd_9_22 wd_9_23 rfl rfl ⟨Nat.le_of_ble_eq_true rfl, Nat.le_of_ble_eq_true rfl, Nat.le_of_ble_eq_true rfl, Nat.le_of_ble_eq_true rfl⟩ (Nat.le_of_ble_eq_true rfl) ?_
  refine w_if_eq 19 dX11_drift_6 (by decide) (fun c3 => ?_) (fun c3 => ?_)
  · replace h := e_t c3 h
    refine w_sub [] rfl ?_
    exact l_X11_drift_19 _ _ h
  · replace h := e_f c3 h
    refine w_iload 5 dX11_drift_9 rfl ?_
    refine w_iconst (v := 0) dX11_drift_11 (by decide) ?_
    refine w_iconst (v := 5) dX11_drift_12 (by decide) ?_
    replace h := e_bind h; obtain ⟨q4, e5, h⟩ := h
    refine w_callS1 (M2 := m_X11_within) (av := [.int (p5), .int (0), .int (5)]) (c_X11_within _ _ _ _ _ e5) dX11_drift_13 kd_X11_within wd_9_22 wd_9_23 rfl rfl ⟨Nat.le_of_ble_eq_true rfl, Nat.le_of_ble_eq_true rfl, Nat.le_of_ble_eq_true rfl, Nat.le_of_ble_eq_true rfl⟩ (Nat.le_of_ble_eq_true rfl) ?_
    refine w_if_ne 23 dX11_drift_16 (by decide) (fun c6 => ?_) (fun c6 => ?_)
    · replace h := e_f c6 h
      refine w_iload_n 2 dX11_drift_23 rfl rfl ?_
      refine w_iload_n 3 dX11_drift_24 rfl rfl ?_
      replace h := e_bind h; obtain ⟨q7, e8, h⟩ := h
      refine w_callS1 (M2 := m_X11_areBounds) (av := [.int (p2), .int (p3)]) (c_X11_areBounds _ _ _ _ e8) dX11_drift_25 kd_X11_areBounds wd_45_9 wd_45_10 rfl rfl ⟨Nat.le_of_ble_eq_true rfl, Nat.le_of_ble_eq_true rfl, Nat.le_of_ble_eq_true rfl, Nat.le_of_ble_eq_true rfl⟩ (Nat.le_of_ble_eq_true rfl) ?_
      refine w_if_eq 40 dX11_drift_28 (by decide) (fun c9 => ?_) (fun c9 => ?_)
      · replace h := e_t c9 h
        refine w_sub [] rfl ?_
        exact l_X11_drift_40 _ _ h
      · replace h := e_f c9 h
        refine w_iload_n 3 dX11_drift_31 rfl rfl ?_
        refine w_iload 4 dX11_drift_32 rfl ?_
        replace h := e_bind h; obtain ⟨q10, e11, h⟩ := h
        refine w_callS1 (M2 := m_X11_areBounds) (av := [.int (p3), .int (p4)]) (c_X11_areBounds _ _ _ _ e11) dX11_drift_34 kd_X11_areBounds wd_45_9 wd_45_10 rfl rfl ⟨Nat.le_of_ble_eq_true rfl, Nat.le_of_ble_eq_true rfl, Nat.le_of_ble_eq_true rfl, Nat.le_of_ble_eq_true rfl⟩ (Nat.le_of_ble_eq_true rfl) ?_
        refine w_if_ne 44 dX11_drift_37 (by decide) (fun c12 => ?_) (fun c12 => ?_)
        · replace h := e_f c12 h
          refine w_aload_n 0 ((some (0))) dX11_drift_44 rfl rfl ?_
          refine w_get (v := va_rf (some 31)) dX11_drift_45 fl_RX11_59 ⟨rfl, Or.inr ⟨rfl, by decide⟩⟩ (aFv_k rfl) ?_
          refine w_aload_n 0 ((some (0))) dX11_drift_48 rfl rfl ?_
          refine w_get (v := va_rf (some 2)) dX11_drift_49 fl_RX11_18 ⟨rfl, Or.inr ⟨rfl, by decide⟩⟩ (aFv_k rfl) ?_
          refine w_iload_n 1 dX11_drift_52 rfl rfl ?_
          refine w_iload_n 2 dX11_drift_53 rfl rfl ?_
          refine w_iload_n 3 dX11_drift_54 rfl rfl ?_
          refine w_iload 4 dX11_drift_55 rfl ?_
          replace h := e_bind h; obtain ⟨q13, e14, h⟩ := h
          refine w_callV0 (M2 := m_X1_tally) (av := [va_rf (some (2)), .int (p1), .int (p2), .int (p3), .int (p4)]) (ci := 1) (c_X1_tally _ _ _ _ _ _ e14) dX11_drift_57 kd_X1_tally wd_45_13 wd_45_14 wd_45_15 rfl rfl ⟨rfl, Or.inr ⟨rfl, by decide⟩⟩ rfl ⟨Nat.le_of_ble_eq_true rfl, Nat.le_of_ble_eq_true rfl, Nat.le_of_ble_eq_true rfl, Nat.le_of_ble_eq_true rfl⟩ (Nat.le_of_ble_eq_true rfl) ?_
          refine w_aload_n 0 ((some (0))) dX11_drift_60 rfl rfl ?_
          refine w_get (v := va_rf (some 31)) dX11_drift_61 fl_RX11_59 ⟨rfl, Or.inr ⟨rfl, by decide⟩⟩ (aFv_k rfl) ?_
          refine w_get dX11_drift_64 fl_RX11_300 ⟨rfl, Or.inr ⟨rfl, by decide⟩⟩ (aFv_i rfl) ?_
          refine w_aload_n 0 ((some (0))) dX11_drift_67 rfl rfl ?_
          refine w_get (v := va_rf (some 31)) dX11_drift_68 fl_RX11_59 ⟨rfl, Or.inr ⟨rfl, by decide⟩⟩ (aFv_k rfl) ?_
          refine w_get dX11_drift_71 fl_RX11_303 ⟨rfl, Or.inr ⟨rfl, by decide⟩⟩ (aFv_i rfl) ?_
          refine w_iadd dX11_drift_74 ?_
          refine w_bipush (v := 40) dX11_drift_75 (by decide) ?_
          refine w_icmp_le 86 dX11_drift_77 (by decide) (fun c15 => ?_) (fun c15 => ?_)
          · replace h := e_t c15 h
            refine w_aload_n 0 ((some (0))) dX11_drift_86 rfl rfl ?_
            refine w_get (v := va_rf (some 31)) dX11_drift_87 fl_RX11_59 ⟨rfl, Or.inr ⟨rfl, by decide⟩⟩ (aFv_k rfl) ?_
            refine w_iload 5 dX11_drift_90 rfl ?_
            replace h := e_bind h; obtain ⟨q16, e17, h⟩ := h
            refine w_callV1 (M2 := m_X1_tell) (av := [.int (p5)]) (ci := 1) (c_X1_tell _ _ _ e17) dX11_drift_92 kd_X1_tell wd_45_21 wd_45_22 wd_45_23 rfl rfl ⟨rfl, Or.inr ⟨rfl, by decide⟩⟩ rfl ⟨Nat.le_of_ble_eq_true rfl, Nat.le_of_ble_eq_true rfl, Nat.le_of_ble_eq_true rfl, Nat.le_of_ble_eq_true rfl⟩ (Nat.le_of_ble_eq_true rfl) ?_
            refine w_sub [] rfl ?_
            exact l_X11_drift_95 _ _ _ h
          · replace h := e_f c15 h
            refine w_ldc2 (v := (-1000003)) dX11_drift_80 wd_45_8 ?_
            refine w_goto 95 dX11_drift_83 (by decide) ?_
            refine w_sub [] rfl ?_
            exact l_X11_drift_95 _ _ _ h
        · replace h := e_t c12 h
          refine w_sub [] rfl ?_
          exact l_X11_drift_40 _ _ h
    · replace h := e_t c6 h
      refine w_sub [] rfl ?_
      exact l_X11_drift_19 _ _ h
theorem dX3_manyBetween_0 : decode cX3_manyBetween 0 = .ok (.iconst 0, 1) := by decide +kernel
theorem dX3_manyBetween_1 : decode cX3_manyBetween 1 = .ok (.istore 4, 2) := by decide +kernel
theorem dX3_manyBetween_3 : decode cX3_manyBetween 3 = .ok (.iconst 0, 1) := by decide +kernel
theorem dX3_manyBetween_4 : decode cX3_manyBetween 4 = .ok (.istore 5, 2) := by decide +kernel
theorem dX3_manyBetween_6 : decode cX3_manyBetween 6 = .ok (.iload 5, 2) := by decide +kernel
theorem dX3_manyBetween_8 : decode cX3_manyBetween 8 = .ok (.aload_n 0, 1) := by decide +kernel
theorem dX3_manyBetween_9 : decode cX3_manyBetween 9 = .ok (.getfield 20, 3) := by decide +kernel
theorem dX3_manyBetween_12 : decode cX3_manyBetween 12 = .ok (.if_icmp .ge 48, 3) := by decide +kernel
theorem dX3_manyBetween_15 : decode cX3_manyBetween 15 = .ok (.aload_n 0, 1) := by decide +kernel
theorem dX3_manyBetween_16 : decode cX3_manyBetween 16 = .ok (.getfield 17, 3) := by decide +kernel
theorem dX3_manyBetween_19 : decode cX3_manyBetween 19 = .ok (.iload 5, 2) := by decide +kernel
theorem dX3_manyBetween_21 : decode cX3_manyBetween 21 = .ok (.aaload, 1) := by decide +kernel
theorem dX3_manyBetween_22 : decode cX3_manyBetween 22 = .ok (.astore 6, 2) := by decide +kernel
theorem dX3_manyBetween_24 : decode cX3_manyBetween 24 = .ok (.aload 6, 2) := by decide +kernel
theorem dX3_manyBetween_26 : decode cX3_manyBetween 26 = .ok (.getfield 41, 3) := by decide +kernel
theorem dX3_manyBetween_29 : decode cX3_manyBetween 29 = .ok (.iload_n 3, 1) := by decide +kernel
theorem dX3_manyBetween_30 : decode cX3_manyBetween 30 = .ok (.if_icmp .ne 24, 3) := by decide +kernel
theorem dX3_manyBetween_33 : decode cX3_manyBetween 33 = .ok (.aload 6, 2) := by decide +kernel
theorem dX3_manyBetween_35 : decode cX3_manyBetween 35 = .ok (.getfield 44, 3) := by decide +kernel
theorem dX3_manyBetween_38 : decode cX3_manyBetween 38 = .ok (.iload_n 1, 1) := by decide +kernel
theorem dX3_manyBetween_39 : decode cX3_manyBetween 39 = .ok (.if_icmp .lt 15, 3) := by decide +kernel
theorem dX3_manyBetween_42 : decode cX3_manyBetween 42 = .ok (.aload 6, 2) := by decide +kernel
theorem dX3_manyBetween_44 : decode cX3_manyBetween 44 = .ok (.getfield 44, 3) := by decide +kernel
theorem dX3_manyBetween_47 : decode cX3_manyBetween 47 = .ok (.iload_n 2, 1) := by decide +kernel
theorem dX3_manyBetween_48 : decode cX3_manyBetween 48 = .ok (.if_icmp .ge 6, 3) := by decide +kernel
theorem dX3_manyBetween_51 : decode cX3_manyBetween 51 = .ok (.iinc 4 1, 3) := by decide +kernel
theorem dX3_manyBetween_54 : decode cX3_manyBetween 54 = .ok (.iinc 5 1, 3) := by decide +kernel
theorem dX3_manyBetween_57 : decode cX3_manyBetween 57 = .ok (.goto (-51), 3) := by decide +kernel
theorem dX3_manyBetween_60 : decode cX3_manyBetween 60 = .ok (.iload 4, 2) := by decide +kernel
theorem dX3_manyBetween_62 : decode cX3_manyBetween 62 = .ok (.ireturn, 1) := by decide +kernel
theorem kd_X3_manyBetween : aKd m_X3_manyBetween 3 := ⟨wd_47_9, wd_1_17, ⟨by decide +kernel, by decide +kernel, by decide +kernel⟩⟩
set_option maxRecDepth 100000 in
set_option maxHeartbeats 4000000 in
theorem l_X3_manyBetween_54 (rec6 : Int32 → Int32 → Int32 → Int32 → Int32 → aSt → Option (Int32 × aSt)) (hrec6 : ∀ (x1 : Int32) (x2 : Int32) (x3 : Int32) (x4 : Int32) (x5 : Int32) (σ : aSt) (o : Int32 × aSt), rec6 x1 x2 x3 x4 x5 σ = some o → AW true m_X3_manyBetween 6 [(0, va_rf (some (2))), (1, Value.int (x1)), (2, Value.int (x2)), (3, Value.int (x3)), (4, Value.int (x4)), (5, Value.int (x5))] [] σ 0 0 (some (.int o.1)) o.2) (x1 : Int32) (x2 : Int32) (x3 : Int32) (x4 : Int32) (x5 : Int32) (σ : aSt) (o : Int32 × aSt) (h : f_X3_manyBetween_54 rec6 x1 x2 x3 x4 x5 σ = some o) : AW true m_X3_manyBetween 54 [(0, va_rf (some (2))), (1, Value.int (x1)), (2, Value.int (x2)), (3, Value.int (x3)), (4, Value.int (x4)), (5, Value.int (x5))] [] σ 0 0 (some (.int o.1)) o.2 := by
  unfold f_X3_manyBetween_54 at h
  refine w_iinc (q := 5) (v := x5 + 1) dX3_manyBetween_54 rfl rfl (by decide) rfl ?_
  refine w_goto 6 dX3_manyBetween_57 (by decide) ?_
  refine w_sub [1, 2, 3, 4, 5, 0] rfl ?_
  exact hrec6 _ _ _ _ _ _ _ h
set_option maxRecDepth 100000 in
set_option maxHeartbeats 4000000 in
theorem l_X3_manyBetween_6_b (rec6 : Int32 → Int32 → Int32 → Int32 → Int32 → aSt → Option (Int32 × aSt)) (hrec6 : ∀ (x1 : Int32) (x2 : Int32) (x3 : Int32) (x4 : Int32) (x5 : Int32) (σ : aSt) (o : Int32 × aSt), rec6 x1 x2 x3 x4 x5 σ = some o → AW true m_X3_manyBetween 6 [(0, va_rf (some (2))), (1, Value.int (x1)), (2, Value.int (x2)), (3, Value.int (x3)), (4, Value.int (x4)), (5, Value.int (x5))] [] σ 0 0 (some (.int o.1)) o.2) (x1 : Int32) (x2 : Int32) (x3 : Int32) (x4 : Int32) (x5 : Int32) (σ : aSt) (o : Int32 × aSt) (h : f_X3_manyBetween_6_b rec6 x1 x2 x3 x4 x5 σ = some o) : AW true m_X3_manyBetween 6 [(0, va_rf (some (2))), (1, Value.int (x1)), (2, Value.int (x2)), (3, Value.int (x3)), (4, Value.int (x4)), (5, Value.int (x5))] [] σ 0 0 (some (.int o.1)) o.2 := by
  unfold f_X3_manyBetween_6_b at h
  refine w_iload 5 dX3_manyBetween_6 rfl ?_
  refine w_aload_n 0 ((some (2))) dX3_manyBetween_8 rfl rfl ?_
  refine w_get dX3_manyBetween_9 fl_RX3_20 ⟨rfl, Or.inr ⟨rfl, by decide⟩⟩ (aFv_i rfl) ?_
  refine w_icmp_ge 60 dX3_manyBetween_12 (by decide) (fun c1 => ?_) (fun c1 => ?_)
  · replace h := e_t c1 h
    refine w_iload 4 dX3_manyBetween_60 rfl ?_
    obtain rfl := Option.some.inj h
    exact w_ireturn dX3_manyBetween_62 rfl (Nat.le_of_ble_eq_true rfl) (Nat.le_of_ble_eq_true rfl)
  · replace h := e_f c1 h
    refine w_aload_n 0 ((some (2))) dX3_manyBetween_15 rfl rfl ?_
    refine w_get (v := va_rf (some 4)) dX3_manyBetween_16 fl_RX3_17 ⟨rfl, Or.inr ⟨rfl, by decide⟩⟩ (aFv_k rfl) ?_
    refine w_iload 5 dX3_manyBetween_19 rfl ?_
    replace h := e_grd h; obtain ⟨b2, h⟩ := h
    refine w_aaloadP dX3_manyBetween_21 ⟨rfl, Or.inr ⟨rfl, by decide⟩⟩ b2 ?_
    refine w_astore dX3_manyBetween_22 (by decide) rfl ?_
    refine w_aload 0 (gR σ 4 x5.toNatClampNeg) dX3_manyBetween_24 rfl ?_
    replace h := e_oS h; obtain ⟨a3, r4, h⟩ := h
    rw [r4]
    replace h := e_grd h; obtain ⟨g5, h⟩ := h
    refine w_get dX3_manyBetween_26 fl_RX3_41 ⟨g5.1, Or.inl g5.2⟩ (aFv_i rfl) ?_
    refine w_iload_n 4 dX3_manyBetween_29 rfl rfl ?_
    refine w_icmp_ne 54 dX3_manyBetween_30 (by decide) (fun c6 => ?_) (fun c6 => ?_)
    · replace h := e_f c6 h
      refine w_sub [1, 2, 3, 4, 5, 6] rfl ?_
      exact l_X3_manyBetween_54 rec6 hrec6 _ _ _ _ _ _ _ h
    · replace h := e_t c6 h
      refine w_aload 0 ((some (a3))) dX3_manyBetween_33 rfl ?_
      refine w_get dX3_manyBetween_35 fl_RX3_44 ⟨g5.1, Or.inl g5.2⟩ (aFv_i rfl) ?_
      refine w_iload_n 2 dX3_manyBetween_38 rfl rfl ?_
      refine w_icmp_lt 54 dX3_manyBetween_39 (by decide) (fun c7 => ?_) (fun c7 => ?_)
      · replace h := e_t c7 h
        refine w_sub [1, 2, 3, 4, 5, 6] rfl ?_
        exact l_X3_manyBetween_54 rec6 hrec6 _ _ _ _ _ _ _ h
      · replace h := e_f c7 h
        refine w_aload 0 ((some (a3))) dX3_manyBetween_42 rfl ?_
        refine w_get dX3_manyBetween_44 fl_RX3_44 ⟨g5.1, Or.inl g5.2⟩ (aFv_i rfl) ?_
        refine w_iload_n 3 dX3_manyBetween_47 rfl rfl ?_
        refine w_icmp_ge 54 dX3_manyBetween_48 (by decide) (fun c8 => ?_) (fun c8 => ?_)
        · replace h := e_t c8 h
          refine w_sub [1, 2, 3, 4, 5, 6] rfl ?_
          exact l_X3_manyBetween_54 rec6 hrec6 _ _ _ _ _ _ _ h
        · replace h := e_f c8 h
          refine w_iinc (q := 5) (v := x4 + 1) dX3_manyBetween_51 rfl rfl (by decide) rfl ?_
          refine w_sub [2, 3, 4, 5, 0, 6] rfl ?_
          exact l_X3_manyBetween_54 rec6 hrec6 _ _ _ _ _ _ _ h
theorem l_X3_manyBetween_6  : ∀ (n : Nat) (x1 : Int32) (x2 : Int32) (x3 : Int32) (x4 : Int32) (x5 : Int32) (σ : aSt) (o : Int32 × aSt), f_X3_manyBetween_6  n x1 x2 x3 x4 x5 σ = some o → AW true m_X3_manyBetween 6 [(0, va_rf (some (2))), (1, Value.int (x1)), (2, Value.int (x2)), (3, Value.int (x3)), (4, Value.int (x4)), (5, Value.int (x5))] [] σ 0 0 (some (.int o.1)) o.2
  | 0 => fun x1 x2 x3 x4 x5 σ o h => by cases h
  | n + 1 => fun x1 x2 x3 x4 x5 σ o h => l_X3_manyBetween_6_b (f_X3_manyBetween_6  n) (l_X3_manyBetween_6  n) x1 x2 x3 x4 x5 σ o h
set_option maxRecDepth 100000 in
set_option maxHeartbeats 4000000 in
theorem c_X3_manyBetween (p1 : Int32) (p2 : Int32) (p3 : Int32) (σ : aSt) (o : Int32 × aSt) (h : f_X3_manyBetween p1 p2 p3 σ = some o) : AM true m_X3_manyBetween [va_rf (some (2)), .int (p1), .int (p2), .int (p3)] σ (some (.int o.1)) o.2 := by
  refine AM_of2 (lv := [(0, va_rf (some (2))), (1, Value.int (p1)), (2, Value.int (p2)), (3, Value.int (p3))]) (by decide +kernel) rfl (Nat.le_of_ble_eq_true rfl) ?_
  unfold f_X3_manyBetween at h
  refine w_iconst (v := 0) dX3_manyBetween_0 (by decide) ?_
  refine w_istore dX3_manyBetween_1 (by decide) rfl ?_
  refine w_iconst (v := 0) dX3_manyBetween_3 (by decide) ?_
  refine w_istore dX3_manyBetween_4 (by decide) rfl ?_
  refine w_sub [2, 3, 4, 5, 1, 0] rfl ?_
  exact l_X3_manyBetween_6 aN _ _ _ _ _ _ _ h
theorem dX11_counted_0 : decode cX11_counted 0 = .ok (.iload_n 1, 1) := by decide +kernel
theorem dX11_counted_1 : decode cX11_counted 1 = .ok (.iload_n 2, 1) := by decide +kernel
theorem dX11_counted_2 : decode cX11_counted 2 = .ok (.invokestatic 293, 3) := by decide +kernel
theorem dX11_counted_5 : decode cX11_counted 5 = .ok (.ifCond .eq 13, 3) := by decide +kernel
theorem dX11_counted_8 : decode cX11_counted 8 = .ok (.iload_n 3, 1) := by decide +kernel
theorem dX11_counted_9 : decode cX11_counted 9 = .ok (.iconst 0, 1) := by decide +kernel
theorem dX11_counted_10 : decode cX11_counted 10 = .ok (.bipush 19, 2) := by decide +kernel
theorem dX11_counted_12 : decode cX11_counted 12 = .ok (.invokestatic 89, 3) := by decide +kernel
theorem dX11_counted_15 : decode cX11_counted 15 = .ok (.ifCond .ne 6, 3) := by decide +kernel
theorem dX11_counted_18 : decode cX11_counted 18 = .ok (.ldc 93, 2) := by decide +kernel
theorem dX11_counted_20 : decode cX11_counted 20 = .ok (.ireturn, 1) := by decide +kernel
theorem dX11_counted_21 : decode cX11_counted 21 = .ok (.aload_n 0, 1) := by decide +kernel
theorem dX11_counted_22 : decode cX11_counted 22 = .ok (.getfield 18, 3) := by decide +kernel
theorem dX11_counted_25 : decode cX11_counted 25 = .ok (.iload_n 1, 1) := by decide +kernel
theorem dX11_counted_26 : decode cX11_counted 26 = .ok (.iload_n 2, 1) := by decide +kernel
theorem dX11_counted_27 : decode cX11_counted 27 = .ok (.iload_n 3, 1) := by decide +kernel
theorem dX11_counted_28 : decode cX11_counted 28 = .ok (.invokevirtual 312, 3) := by decide +kernel
theorem dX11_counted_31 : decode cX11_counted 31 = .ok (.istore 4, 2) := by decide +kernel
theorem dX11_counted_33 : decode cX11_counted 33 = .ok (.iload 4, 2) := by decide +kernel
theorem dX11_counted_35 : decode cX11_counted 35 = .ok (.ifCond .le 14, 3) := by decide +kernel
theorem dX11_counted_38 : decode cX11_counted 38 = .ok (.iload 4, 2) := by decide +kernel
theorem dX11_counted_40 : decode cX11_counted 40 = .ok (.iconst 5, 1) := by decide +kernel
theorem dX11_counted_41 : decode cX11_counted 41 = .ok (.if_icmp .ge 8, 3) := by decide +kernel
theorem dX11_counted_44 : decode cX11_counted 44 = .ok (.ldc 171, 2) := by decide +kernel
theorem dX11_counted_46 : decode cX11_counted 46 = .ok (.goto 5, 3) := by decide +kernel
theorem dX11_counted_49 : decode cX11_counted 49 = .ok (.iload 4, 2) := by decide +kernel
theorem dX11_counted_51 : decode cX11_counted 51 = .ok (.ireturn, 1) := by decide +kernel
theorem kd_X11_counted : aKd m_X11_counted 3 := ⟨wd_47_5, wd_1_2, ⟨by decide +kernel, by decide +kernel, by decide +kernel⟩⟩
set_option maxRecDepth 100000 in
set_option maxHeartbeats 4000000 in
theorem l_X11_counted_18   (σ : aSt) (o : Int32 × aSt) (h : f_X11_counted_18   σ = some o) : AW true m_X11_counted 18 [] [] σ 0 0 (some (.int o.1)) o.2 := by
  unfold f_X11_counted_18 at h
  refine w_ldc (v := (-1000001)) dX11_counted_18 wd_9_18 ?_
  obtain rfl := Option.some.inj h
  exact w_ireturn dX11_counted_20 rfl (Nat.le_of_ble_eq_true rfl) (Nat.le_of_ble_eq_true rfl)
set_option maxRecDepth 100000 in
set_option maxHeartbeats 4000000 in
theorem l_X11_counted_51  (t0 : Int32) (σ : aSt) (o : Int32 × aSt) (h : f_X11_counted_51  t0 σ = some o) : AW true m_X11_counted 51 [] [.int (t0)] σ 0 0 (some (.int o.1)) o.2 := by
  unfold f_X11_counted_51 at h
  obtain rfl := Option.some.inj h
  exact w_ireturn dX11_counted_51 rfl (Nat.le_of_ble_eq_true rfl) (Nat.le_of_ble_eq_true rfl)
set_option maxRecDepth 100000 in
set_option maxHeartbeats 4000000 in
theorem l_X11_counted_49  (x4 : Int32) (σ : aSt) (o : Int32 × aSt) (h : f_X11_counted_49  x4 σ = some o) : AW true m_X11_counted 49 [(4, Value.int (x4))] [] σ 0 0 (some (.int o.1)) o.2 := by
  unfold f_X11_counted_49 at h
  refine w_iload 0 dX11_counted_49 rfl ?_
  refine w_sub [] rfl ?_
  exact l_X11_counted_51 _ _ _ h
set_option maxRecDepth 100000 in
set_option maxHeartbeats 4000000 in
theorem c_X11_counted (p1 : Int32) (p2 : Int32) (p3 : Int32) (σ : aSt) (o : Int32 × aSt) (h : f_X11_counted p1 p2 p3 σ = some o) : AM true m_X11_counted [va_rf (some (0)), .int (p1), .int (p2), .int (p3)] σ (some (.int o.1)) o.2 := by
  refine AM_of2 (lv := [(0, va_rf (some (0))), (1, Value.int (p1)), (2, Value.int (p2)), (3, Value.int (p3))]) (by decide +kernel) rfl (Nat.le_of_ble_eq_true rfl) ?_
  unfold f_X11_counted at h
  refine w_iload_n 1 dX11_counted_0 rfl rfl ?_
  refine w_iload_n 2 dX11_counted_1 rfl rfl ?_
  replace h := e_bind h; obtain ⟨q1, e2, h⟩ := h
  refine w_callS1 (M2 := m_X11_areBounds) (av := [.int (p1), .int (p2)]) (c_X11_areBounds _ _ _ _ e2) dX11_counted_2 kd_X11_areBounds wd_45_9 wd_45_10 rfl rfl ⟨Nat.le_of_ble_eq_true rfl, Nat.le_of_ble_eq_true rfl, Nat.le_of_ble_eq_true rfl, Nat.le_of_ble_eq_true rfl⟩ (Nat.le_of_ble_eq_true rfl) ?_
  refine w_if_eq 18 dX11_counted_5 (by decide) (fun c3 => ?_) (fun c3 => ?_)
  · replace h := e_t c3 h
    refine w_sub [] rfl ?_
    exact l_X11_counted_18 _ _ h
  · replace h := e_f c3 h
    refine w_iload_n 3 dX11_counted_8 rfl rfl ?_
    refine w_iconst (v := 0) dX11_counted_9 (by decide) ?_
    refine w_bipush (v := 19) dX11_counted_10 (by decide) ?_
    replace h := e_bind h; obtain ⟨q4, e5, h⟩ := h
    refine w_callS1 (M2 := m_X11_within) (av := [.int (p3), .int (0), .int (19)]) (c_X11_within _ _ _ _ _ e5) dX11_counted_12 kd_X11_within wd_9_22 wd_9_23 rfl rfl ⟨Nat.le_of_ble_eq_true rfl, Nat.le_of_ble_eq_true rfl, Nat.le_of_ble_eq_true rfl, Nat.le_of_ble_eq_true rfl⟩ (Nat.le_of_ble_eq_true rfl) ?_
    refine w_if_ne 21 dX11_counted_15 (by decide) (fun c6 => ?_) (fun c6 => ?_)
    · replace h := e_f c6 h
      refine w_aload_n 0 ((some (0))) dX11_counted_21 rfl rfl ?_
      refine w_get (v := va_rf (some 2)) dX11_counted_22 fl_RX11_18 ⟨rfl, Or.inr ⟨rfl, by decide⟩⟩ (aFv_k rfl) ?_
      refine w_iload_n 1 dX11_counted_25 rfl rfl ?_
      refine w_iload_n 2 dX11_counted_26 rfl rfl ?_
      refine w_iload_n 3 dX11_counted_27 rfl rfl ?_
      replace h := e_bind h; obtain ⟨q7, e8, h⟩ := h
      refine w_callV1 (M2 := m_X3_manyBetween) (av := [.int (p1), .int (p2), .int (p3)]) (ci := 3) (c_X3_manyBetween _ _ _ _ _ e8) dX11_counted_28 kd_X3_manyBetween wd_47_6 wd_47_7 wd_47_8 rfl rfl ⟨rfl, Or.inr ⟨rfl, by decide⟩⟩ rfl ⟨Nat.le_of_ble_eq_true rfl, Nat.le_of_ble_eq_true rfl, Nat.le_of_ble_eq_true rfl, Nat.le_of_ble_eq_true rfl⟩ (Nat.le_of_ble_eq_true rfl) ?_
      refine w_istore dX11_counted_31 (by decide) rfl ?_
      refine w_iload 0 dX11_counted_33 rfl ?_
      refine w_if_le 49 dX11_counted_35 (by decide) (fun c9 => ?_) (fun c9 => ?_)
      · replace h := e_t c9 h
        refine w_sub [0] rfl ?_
        exact l_X11_counted_49 _ _ _ h
      · replace h := e_f c9 h
        refine w_iload 0 dX11_counted_38 rfl ?_
        refine w_iconst (v := 5) dX11_counted_40 (by decide) ?_
        refine w_icmp_ge 49 dX11_counted_41 (by decide) (fun c10 => ?_) (fun c10 => ?_)
        · replace h := e_t c10 h
          refine w_sub [0] rfl ?_
          exact l_X11_counted_49 _ _ _ h
        · replace h := e_f c10 h
          refine w_ldc (v := (-1000000)) dX11_counted_44 wd_17_7 ?_
          refine w_goto 51 dX11_counted_46 (by decide) ?_
          refine w_sub [] rfl ?_
          exact l_X11_counted_51 _ _ _ h
    · replace h := e_t c6 h
      refine w_sub [] rfl ?_
      exact l_X11_counted_18 _ _ h
theorem dX2_kindOf_0 : decode cX2_kindOf 0 = .ok (.aload_n 1, 1) := by decide +kernel
theorem dX2_kindOf_1 : decode cX2_kindOf 1 = .ok (.getfield 109, 3) := by decide +kernel
theorem dX2_kindOf_4 : decode cX2_kindOf 4 = .ok (.ifCond .ne 5, 3) := by decide +kernel
theorem dX2_kindOf_7 : decode cX2_kindOf 7 = .ok (.iconst 3, 1) := by decide +kernel
theorem dX2_kindOf_8 : decode cX2_kindOf 8 = .ok (.ireturn, 1) := by decide +kernel
theorem dX2_kindOf_9 : decode cX2_kindOf 9 = .ok (.aload_n 0, 1) := by decide +kernel
theorem dX2_kindOf_10 : decode cX2_kindOf 10 = .ok (.aload_n 1, 1) := by decide +kernel
theorem dX2_kindOf_11 : decode cX2_kindOf 11 = .ok (.iconst 0, 1) := by decide +kernel
theorem dX2_kindOf_12 : decode cX2_kindOf 12 = .ok (.invokevirtual 96, 3) := by decide +kernel
theorem dX2_kindOf_15 : decode cX2_kindOf 15 = .ok (.istore_n 2, 1) := by decide +kernel
theorem dX2_kindOf_16 : decode cX2_kindOf 16 = .ok (.iload_n 2, 1) := by decide +kernel
theorem dX2_kindOf_17 : decode cX2_kindOf 17 = .ok (.iconst 2, 1) := by decide +kernel
theorem dX2_kindOf_18 : decode cX2_kindOf 18 = .ok (.if_icmp .ne 7, 3) := by decide +kernel
theorem dX2_kindOf_21 : decode cX2_kindOf 21 = .ok (.iconst 2, 1) := by decide +kernel
theorem dX2_kindOf_22 : decode cX2_kindOf 22 = .ok (.goto 13, 3) := by decide +kernel
theorem dX2_kindOf_25 : decode cX2_kindOf 25 = .ok (.iload_n 2, 1) := by decide +kernel
theorem dX2_kindOf_26 : decode cX2_kindOf 26 = .ok (.iconst 1, 1) := by decide +kernel
theorem dX2_kindOf_27 : decode cX2_kindOf 27 = .ok (.if_icmp .ne 7, 3) := by decide +kernel
theorem dX2_kindOf_30 : decode cX2_kindOf 30 = .ok (.iconst 1, 1) := by decide +kernel
theorem dX2_kindOf_31 : decode cX2_kindOf 31 = .ok (.goto 4, 3) := by decide +kernel
theorem dX2_kindOf_34 : decode cX2_kindOf 34 = .ok (.iconst 0, 1) := by decide +kernel
theorem dX2_kindOf_35 : decode cX2_kindOf 35 = .ok (.ireturn, 1) := by decide +kernel
theorem kd_X2_kindOf : aKd m_X2_kindOf 1 := ⟨wd_47_23, wd_2_5, ⟨by decide +kernel, by decide +kernel, by decide +kernel⟩⟩
set_option maxRecDepth 100000 in
set_option maxHeartbeats 4000000 in
theorem l_X2_kindOf_35  (t0 : Int32) (σ : aSt) (o : Int32 × aSt) (h : f_X2_kindOf_35  t0 σ = some o) : AW true m_X2_kindOf 35 [] [.int (t0)] σ 0 0 (some (.int o.1)) o.2 := by
  unfold f_X2_kindOf_35 at h
  obtain rfl := Option.some.inj h
  exact w_ireturn dX2_kindOf_35 rfl (Nat.le_of_ble_eq_true rfl) (Nat.le_of_ble_eq_true rfl)
set_option maxRecDepth 100000 in
set_option maxHeartbeats 4000000 in
theorem c_X2_kindOf (p1 : Nat) (σ : aSt) (o : Int32 × aSt) (h : f_X2_kindOf p1 σ = some o) : AM true m_X2_kindOf [va_rf (some (11)), va_rf (some (p1))] σ (some (.int o.1)) o.2 := by
  refine AM_of2 (lv := [(0, va_rf (some (11))), (1, va_rf (some (p1)))]) (by decide +kernel) rfl (Nat.le_of_ble_eq_true rfl) ?_
  unfold f_X2_kindOf at h
  refine w_aload_n 1 ((some (p1))) dX2_kindOf_0 rfl rfl ?_
  replace h := e_grd h; obtain ⟨g1, h⟩ := h
  refine w_get dX2_kindOf_1 fl_RX2_109 ⟨g1.1, Or.inl g1.2⟩ (aFv_i rfl) ?_
  refine w_if_ne 9 dX2_kindOf_4 (by decide) (fun c2 => ?_) (fun c2 => ?_)
  · replace h := e_f c2 h
    refine w_aload_n 0 ((some (11))) dX2_kindOf_9 rfl rfl ?_
    refine w_aload_n 1 ((some (p1))) dX2_kindOf_10 rfl rfl ?_
    refine w_iconst (v := 0) dX2_kindOf_11 (by decide) ?_
    replace h := e_bind h; obtain ⟨q3, e4, h⟩ := h
    refine w_callV1 (M2 := m_X2_actOf) (av := [va_rf (some (p1)), .int (0)]) (ci := 2) (c_X2_actOf _ _ _ _ e4) dX2_kindOf_12 kd_X2_actOf wd_35_10 wd_34_18 wd_34_19 rfl rfl ⟨rfl, Or.inr ⟨rfl, by decide⟩⟩ rfl ⟨Nat.le_of_ble_eq_true rfl, Nat.le_of_ble_eq_true rfl, Nat.le_of_ble_eq_true rfl, Nat.le_of_ble_eq_true rfl⟩ (Nat.le_of_ble_eq_true rfl) ?_
    refine w_istore_n dX2_kindOf_15 rfl (by decide) rfl ?_
    refine w_iload_n 0 dX2_kindOf_16 rfl rfl ?_
    refine w_iconst (v := 2) dX2_kindOf_17 (by decide) ?_
    refine w_icmp_ne 25 dX2_kindOf_18 (by decide) (fun c5 => ?_) (fun c5 => ?_)
    · replace h := e_f c5 h
      refine w_iload_n 0 dX2_kindOf_25 rfl rfl ?_
      refine w_iconst (v := 1) dX2_kindOf_26 (by decide) ?_
      refine w_icmp_ne 34 dX2_kindOf_27 (by decide) (fun c6 => ?_) (fun c6 => ?_)
      · replace h := e_f c6 h
        refine w_iconst (v := 0) dX2_kindOf_34 (by decide) ?_
        refine w_sub [] rfl ?_
        exact l_X2_kindOf_35 _ _ _ h
      · replace h := e_t c6 h
        refine w_iconst (v := 1) dX2_kindOf_30 (by decide) ?_
        refine w_goto 35 dX2_kindOf_31 (by decide) ?_
        refine w_sub [] rfl ?_
        exact l_X2_kindOf_35 _ _ _ h
    · replace h := e_t c5 h
      refine w_iconst (v := 2) dX2_kindOf_21 (by decide) ?_
      refine w_goto 35 dX2_kindOf_22 (by decide) ?_
      refine w_sub [] rfl ?_
      exact l_X2_kindOf_35 _ _ _ h
  · replace h := e_t c2 h
    refine w_iconst (v := 3) dX2_kindOf_7 (by decide) ?_
    obtain rfl := Option.some.inj h
    exact w_ireturn dX2_kindOf_8 rfl (Nat.le_of_ble_eq_true rfl) (Nat.le_of_ble_eq_true rfl)
theorem dX11_kind_0 : decode cX11_kind 0 = .ok (.aload_n 0, 1) := by decide +kernel
theorem dX11_kind_1 : decode cX11_kind 1 = .ok (.getfield 18, 3) := by decide +kernel
theorem dX11_kind_4 : decode cX11_kind 4 = .ok (.iload_n 1, 1) := by decide +kernel
theorem dX11_kind_5 : decode cX11_kind 5 = .ok (.invokevirtual 141, 3) := by decide +kernel
theorem dX11_kind_8 : decode cX11_kind 8 = .ok (.astore_n 2, 1) := by decide +kernel
theorem dX11_kind_9 : decode cX11_kind 9 = .ok (.aload_n 2, 1) := by decide +kernel
theorem dX11_kind_10 : decode cX11_kind 10 = .ok (.ifnonnull 8, 3) := by decide +kernel
theorem dX11_kind_13 : decode cX11_kind 13 = .ok (.ldc 93, 2) := by decide +kernel
theorem dX11_kind_15 : decode cX11_kind 15 = .ok (.goto 11, 3) := by decide +kernel
theorem dX11_kind_18 : decode cX11_kind 18 = .ok (.aload_n 0, 1) := by decide +kernel
theorem dX11_kind_19 : decode cX11_kind 19 = .ok (.getfield 43, 3) := by decide +kernel
theorem dX11_kind_22 : decode cX11_kind 22 = .ok (.aload_n 2, 1) := by decide +kernel
theorem dX11_kind_23 : decode cX11_kind 23 = .ok (.invokevirtual 316, 3) := by decide +kernel
theorem dX11_kind_26 : decode cX11_kind 26 = .ok (.ireturn, 1) := by decide +kernel
theorem kd_X11_kind : aKd m_X11_kind 1 := ⟨wd_47_19, wd_1_2, ⟨by decide +kernel, by decide +kernel, by decide +kernel⟩⟩
set_option maxRecDepth 100000 in
set_option maxHeartbeats 4000000 in
theorem l_X11_kind_26  (t0 : Int32) (σ : aSt) (o : Int32 × aSt) (h : f_X11_kind_26  t0 σ = some o) : AW true m_X11_kind 26 [] [.int (t0)] σ 0 0 (some (.int o.1)) o.2 := by
  unfold f_X11_kind_26 at h
  obtain rfl := Option.some.inj h
  exact w_ireturn dX11_kind_26 rfl (Nat.le_of_ble_eq_true rfl) (Nat.le_of_ble_eq_true rfl)
set_option maxRecDepth 100000 in
set_option maxHeartbeats 4000000 in
theorem c_X11_kind (p1 : Int32) (σ : aSt) (o : Int32 × aSt) (h : f_X11_kind p1 σ = some o) : AM true m_X11_kind [va_rf (some (0)), .int (p1)] σ (some (.int o.1)) o.2 := by
  refine AM_of2 (lv := [(0, va_rf (some (0))), (1, Value.int (p1))]) (by decide +kernel) rfl (Nat.le_of_ble_eq_true rfl) ?_
  unfold f_X11_kind at h
  refine w_aload_n 0 ((some (0))) dX11_kind_0 rfl rfl ?_
  refine w_get (v := va_rf (some 2)) dX11_kind_1 fl_RX11_18 ⟨rfl, Or.inr ⟨rfl, by decide⟩⟩ (aFv_k rfl) ?_
  refine w_iload_n 1 dX11_kind_4 rfl rfl ?_
  replace h := e_bind h; obtain ⟨q1, e2, h⟩ := h
  refine w_callV1 (M2 := m_X3_find) (av := [.int (p1)]) (ci := 3) (c_X3_find _ _ _ e2) dX11_kind_5 kd_X3_find wd_13_20 wd_13_21 wd_13_22 rfl rfl ⟨rfl, Or.inr ⟨rfl, by decide⟩⟩ rfl ⟨Nat.le_of_ble_eq_true rfl, Nat.le_of_ble_eq_true rfl, Nat.le_of_ble_eq_true rfl, Nat.le_of_ble_eq_true rfl⟩ (Nat.le_of_ble_eq_true rfl) ?_
  refine w_astore_n dX11_kind_8 rfl (by decide) rfl ?_
  refine w_aload_n 0 (q1.1) dX11_kind_9 rfl rfl ?_
  replace h := e_oC h; rcases h with ⟨r6, h⟩ | ⟨a3, r6, h⟩
  · rw [r6]
    refine w_ifnonnull0 dX11_kind_10 ?_
    refine w_ldc (v := (-1000001)) dX11_kind_13 wd_9_18 ?_
    refine w_goto 26 dX11_kind_15 (by decide) ?_
    refine w_sub [] rfl ?_
    exact l_X11_kind_26 _ _ _ h
  · rw [r6]
    refine w_ifnonnull1 18 dX11_kind_10 (by decide) ?_
    refine w_aload_n 1 ((some (0))) dX11_kind_18 rfl rfl ?_
    refine w_get (v := va_rf (some 11)) dX11_kind_19 fl_RX11_43 ⟨rfl, Or.inr ⟨rfl, by decide⟩⟩ (aFv_k rfl) ?_
    refine w_aload_n 0 ((some (a3))) dX11_kind_22 rfl rfl ?_
    replace h := e_bind h; obtain ⟨q4, e5, h⟩ := h
    refine w_callV1 (M2 := m_X2_kindOf) (av := [va_rf (some (a3))]) (ci := 2) (c_X2_kindOf _ _ _ e5) dX11_kind_23 kd_X2_kindOf wd_47_20 wd_47_21 wd_47_22 rfl rfl ⟨rfl, Or.inr ⟨rfl, by decide⟩⟩ rfl ⟨Nat.le_of_ble_eq_true rfl, Nat.le_of_ble_eq_true rfl, Nat.le_of_ble_eq_true rfl, Nat.le_of_ble_eq_true rfl⟩ (Nat.le_of_ble_eq_true rfl) ?_
    refine w_sub [] rfl ?_
    exact l_X11_kind_26 _ _ _ h
theorem dX11_as_0 : decode cX11_as 0 = .ok (.aload_n 0, 1) := by decide +kernel
theorem dX11_as_1 : decode cX11_as 1 = .ok (.getfield 18, 3) := by decide +kernel
theorem dX11_as_4 : decode cX11_as 4 = .ok (.iload_n 1, 1) := by decide +kernel
theorem dX11_as_5 : decode cX11_as 5 = .ok (.invokevirtual 141, 3) := by decide +kernel
theorem dX11_as_8 : decode cX11_as 8 = .ok (.astore_n 3, 1) := by decide +kernel
theorem dX11_as_9 : decode cX11_as 9 = .ok (.aload_n 3, 1) := by decide +kernel
theorem dX11_as_10 : decode cX11_as 10 = .ok (.ifnull 12, 3) := by decide +kernel
theorem dX11_as_13 : decode cX11_as 13 = .ok (.iload_n 2, 1) := by decide +kernel
theorem dX11_as_14 : decode cX11_as 14 = .ok (.iconst 0, 1) := by decide +kernel
theorem dX11_as_15 : decode cX11_as 15 = .ok (.iconst 3, 1) := by decide +kernel
theorem dX11_as_16 : decode cX11_as 16 = .ok (.invokestatic 89, 3) := by decide +kernel
theorem dX11_as_19 : decode cX11_as 19 = .ok (.ifCond .ne 6, 3) := by decide +kernel
theorem dX11_as_22 : decode cX11_as 22 = .ok (.ldc 93, 2) := by decide +kernel
theorem dX11_as_24 : decode cX11_as 24 = .ok (.ireturn, 1) := by decide +kernel
theorem dX11_as_25 : decode cX11_as 25 = .ok (.aload_n 0, 1) := by decide +kernel
theorem dX11_as_26 : decode cX11_as 26 = .ok (.getfield 43, 3) := by decide +kernel
theorem dX11_as_29 : decode cX11_as 29 = .ok (.aload_n 3, 1) := by decide +kernel
theorem dX11_as_30 : decode cX11_as 30 = .ok (.invokevirtual 316, 3) := by decide +kernel
theorem dX11_as_33 : decode cX11_as 33 = .ok (.istore 4, 2) := by decide +kernel
theorem dX11_as_35 : decode cX11_as 35 = .ok (.iload_n 2, 1) := by decide +kernel
theorem dX11_as_36 : decode cX11_as 36 = .ok (.iload 4, 2) := by decide +kernel
theorem dX11_as_38 : decode cX11_as 38 = .ok (.if_icmp .eq 18, 3) := by decide +kernel
theorem dX11_as_41 : decode cX11_as 41 = .ok (.iload_n 2, 1) := by decide +kernel
theorem dX11_as_42 : decode cX11_as 42 = .ok (.ifCond .eq 14, 3) := by decide +kernel
theorem dX11_as_45 : decode cX11_as 45 = .ok (.iload_n 2, 1) := by decide +kernel
theorem dX11_as_46 : decode cX11_as 46 = .ok (.iconst 1, 1) := by decide +kernel
theorem dX11_as_47 : decode cX11_as 47 = .ok (.if_icmp .ne 13, 3) := by decide +kernel
theorem dX11_as_50 : decode cX11_as 50 = .ok (.iload 4, 2) := by decide +kernel
theorem dX11_as_52 : decode cX11_as 52 = .ok (.iconst 2, 1) := by decide +kernel
theorem dX11_as_53 : decode cX11_as 53 = .ok (.if_icmp .ne 7, 3) := by decide +kernel
theorem dX11_as_56 : decode cX11_as 56 = .ok (.iconst 1, 1) := by decide +kernel
theorem dX11_as_57 : decode cX11_as 57 = .ok (.goto 4, 3) := by decide +kernel
theorem dX11_as_60 : decode cX11_as 60 = .ok (.iconst 0, 1) := by decide +kernel
theorem dX11_as_61 : decode cX11_as 61 = .ok (.istore 5, 2) := by decide +kernel
theorem dX11_as_63 : decode cX11_as 63 = .ok (.iload 5, 2) := by decide +kernel
theorem dX11_as_65 : decode cX11_as 65 = .ok (.ifCond .eq 14, 3) := by decide +kernel
theorem dX11_as_68 : decode cX11_as 68 = .ok (.aload_n 0, 1) := by decide +kernel
theorem dX11_as_69 : decode cX11_as 69 = .ok (.aload_n 3, 1) := by decide +kernel
theorem dX11_as_70 : decode cX11_as 70 = .ok (.getfield 145, 3) := by decide +kernel
theorem dX11_as_73 : decode cX11_as 73 = .ok (.invokevirtual 102, 3) := by decide +kernel
theorem dX11_as_76 : decode cX11_as 76 = .ok (.goto 8, 3) := by decide +kernel
theorem dX11_as_79 : decode cX11_as 79 = .ok (.aload_n 0, 1) := by decide +kernel
theorem dX11_as_80 : decode cX11_as 80 = .ok (.iconst 3, 1) := by decide +kernel
theorem dX11_as_81 : decode cX11_as 81 = .ok (.invokevirtual 94, 3) := by decide +kernel
theorem dX11_as_84 : decode cX11_as 84 = .ok (.ireturn, 1) := by decide +kernel
theorem kd_X11_as : aKd m_X11_as 2 := ⟨wd_48_11, wd_1_2, ⟨by decide +kernel, by decide +kernel, by decide +kernel⟩⟩
set_option maxRecDepth 100000 in
set_option maxHeartbeats 4000000 in
theorem l_X11_as_22   (σ : aSt) (o : Int32 × aSt) (h : f_X11_as_22   σ = some o) : AW true m_X11_as 22 [] [] σ 0 0 (some (.int o.1)) o.2 := by
  unfold f_X11_as_22 at h
  refine w_ldc (v := (-1000001)) dX11_as_22 wd_9_18 ?_
  obtain rfl := Option.some.inj h
  exact w_ireturn dX11_as_24 rfl (Nat.le_of_ble_eq_true rfl) (Nat.le_of_ble_eq_true rfl)
set_option maxRecDepth 100000 in
set_option maxHeartbeats 4000000 in
theorem l_X11_as_84  (t0 : Int32) (σ : aSt) (o : Int32 × aSt) (h : f_X11_as_84  t0 σ = some o) : AW true m_X11_as 84 [] [.int (t0)] σ 0 0 (some (.int o.1)) o.2 := by
  unfold f_X11_as_84 at h
  obtain rfl := Option.some.inj h
  exact w_ireturn dX11_as_84 rfl (Nat.le_of_ble_eq_true rfl) (Nat.le_of_ble_eq_true rfl)
set_option maxRecDepth 100000 in
set_option maxHeartbeats 4000000 in
theorem l_X11_as_61  (x3 : Nat) (t0 : Int32) (σ : aSt) (o : Int32 × aSt) (h : f_X11_as_61  x3 t0 σ = some o) : AW true m_X11_as 61 [(0, va_rf (some (0))), (3, va_rf (some (x3)))] [.int (t0)] σ 0 0 (some (.int o.1)) o.2 := by
  unfold f_X11_as_61 at h
  refine w_istore dX11_as_61 (by decide) rfl ?_
  refine w_iload 0 dX11_as_63 rfl ?_
  refine w_if_eq 79 dX11_as_65 (by decide) (fun c14 => ?_) (fun c14 => ?_)
  · replace h := e_t c14 h
    refine w_aload_n 1 ((some (0))) dX11_as_79 rfl rfl ?_
    refine w_iconst (v := 3) dX11_as_80 (by decide) ?_
    replace h := e_bind h; obtain ⟨q15, e16, h⟩ := h
    refine w_callV1 (M2 := m_X11_found) (av := [.int (3)]) (ci := 11) (c_X11_found _ _ _ e16) dX11_as_81 kd_X11_found wd_10_1 wd_10_2 wd_10_3 rfl rfl ⟨rfl, Or.inr ⟨rfl, by decide⟩⟩ rfl ⟨Nat.le_of_ble_eq_true rfl, Nat.le_of_ble_eq_true rfl, Nat.le_of_ble_eq_true rfl, Nat.le_of_ble_eq_true rfl⟩ (Nat.le_of_ble_eq_true rfl) ?_
    refine w_sub [] rfl ?_
    exact l_X11_as_84 _ _ _ h
  · replace h := e_f c14 h
    refine w_aload_n 1 ((some (0))) dX11_as_68 rfl rfl ?_
    refine w_aload_n 2 ((some (x3))) dX11_as_69 rfl rfl ?_
    replace h := e_grd h; obtain ⟨g17, h⟩ := h
    refine w_get dX11_as_70 fl_RX11_145 ⟨g17.1, Or.inl g17.2⟩ (aFv_i rfl) ?_
    replace h := e_bind h; obtain ⟨q18, e19, h⟩ := h
    refine w_callV1 (M2 := m_X11_unhurt) (av := [.int (gI σ x3 6)]) (ci := 11) (c_X11_unhurt _ _ _ e19) dX11_as_73 kd_X11_unhurt wd_10_11 wd_10_12 wd_10_13 rfl rfl ⟨rfl, Or.inr ⟨rfl, by decide⟩⟩ rfl ⟨Nat.le_of_ble_eq_true rfl, Nat.le_of_ble_eq_true rfl, Nat.le_of_ble_eq_true rfl, Nat.le_of_ble_eq_true rfl⟩ (Nat.le_of_ble_eq_true rfl) ?_
    refine w_goto 84 dX11_as_76 (by decide) ?_
    refine w_sub [] rfl ?_
    exact l_X11_as_84 _ _ _ h
set_option maxRecDepth 100000 in
set_option maxHeartbeats 4000000 in
theorem l_X11_as_56  (x3 : Nat) (σ : aSt) (o : Int32 × aSt) (h : f_X11_as_56  x3 σ = some o) : AW true m_X11_as 56 [(0, va_rf (some (0))), (3, va_rf (some (x3)))] [] σ 0 0 (some (.int o.1)) o.2 := by
  unfold f_X11_as_56 at h
  refine w_iconst (v := 1) dX11_as_56 (by decide) ?_
  refine w_goto 61 dX11_as_57 (by decide) ?_
  exact l_X11_as_61 _ _ _ _ h
set_option maxRecDepth 100000 in
set_option maxHeartbeats 4000000 in
theorem l_X11_as_60  (x3 : Nat) (σ : aSt) (o : Int32 × aSt) (h : f_X11_as_60  x3 σ = some o) : AW true m_X11_as 60 [(0, va_rf (some (0))), (3, va_rf (some (x3)))] [] σ 0 0 (some (.int o.1)) o.2 := by
  unfold f_X11_as_60 at h
  refine w_iconst (v := 0) dX11_as_60 (by decide) ?_
  exact l_X11_as_61 _ _ _ _ h
set_option maxRecDepth 100000 in
set_option maxHeartbeats 4000000 in
theorem c_X11_as (p1 : Int32) (p2 : Int32) (σ : aSt) (o : Int32 × aSt) (h : f_X11_as p1 p2 σ = some o) : AM true m_X11_as [va_rf (some (0)), .int (p1), .int (p2)] σ (some (.int o.1)) o.2 := by
  refine AM_of2 (lv := [(0, va_rf (some (0))), (1, Value.int (p1)), (2, Value.int (p2))]) (by decide +kernel) rfl (Nat.le_of_ble_eq_true rfl) ?_
  unfold f_X11_as at h
  refine w_aload_n 0 ((some (0))) dX11_as_0 rfl rfl ?_
  refine w_get (v := va_rf (some 2)) dX11_as_1 fl_RX11_18 ⟨rfl, Or.inr ⟨rfl, by decide⟩⟩ (aFv_k rfl) ?_
  refine w_iload_n 1 dX11_as_4 rfl rfl ?_
  replace h := e_bind h; obtain ⟨q1, e2, h⟩ := h
  refine w_callV1 (M2 := m_X3_find) (av := [.int (p1)]) (ci := 3) (c_X3_find _ _ _ e2) dX11_as_5 kd_X3_find wd_13_20 wd_13_21 wd_13_22 rfl rfl ⟨rfl, Or.inr ⟨rfl, by decide⟩⟩ rfl ⟨Nat.le_of_ble_eq_true rfl, Nat.le_of_ble_eq_true rfl, Nat.le_of_ble_eq_true rfl, Nat.le_of_ble_eq_true rfl⟩ (Nat.le_of_ble_eq_true rfl) ?_
  refine w_astore_n dX11_as_8 rfl (by decide) rfl ?_
  refine w_aload_n 0 (q1.1) dX11_as_9 rfl rfl ?_
  replace h := e_oC h; rcases h with ⟨r13, h⟩ | ⟨a3, r13, h⟩
  · rw [r13]
    refine w_ifnull0 22 dX11_as_10 (by decide) ?_
    refine w_sub [] rfl ?_
    exact l_X11_as_22 _ _ h
  · rw [r13]
    refine w_ifnull1 dX11_as_10 ?_
    refine w_iload_n 3 dX11_as_13 rfl rfl ?_
    refine w_iconst (v := 0) dX11_as_14 (by decide) ?_
    refine w_iconst (v := 3) dX11_as_15 (by decide) ?_
    replace h := e_bind h; obtain ⟨q4, e5, h⟩ := h
    refine w_callS1 (M2 := m_X11_within) (av := [.int (p2), .int (0), .int (3)]) (c_X11_within _ _ _ _ _ e5) dX11_as_16 kd_X11_within wd_9_22 wd_9_23 rfl rfl ⟨Nat.le_of_ble_eq_true rfl, Nat.le_of_ble_eq_true rfl, Nat.le_of_ble_eq_true rfl, Nat.le_of_ble_eq_true rfl⟩ (Nat.le_of_ble_eq_true rfl) ?_
    refine w_if_ne 25 dX11_as_19 (by decide) (fun c6 => ?_) (fun c6 => ?_)
    · replace h := e_f c6 h
      refine w_aload_n 1 ((some (0))) dX11_as_25 rfl rfl ?_
      refine w_get (v := va_rf (some 11)) dX11_as_26 fl_RX11_43 ⟨rfl, Or.inr ⟨rfl, by decide⟩⟩ (aFv_k rfl) ?_
      refine w_aload_n 0 ((some (a3))) dX11_as_29 rfl rfl ?_
      replace h := e_bind h; obtain ⟨q7, e8, h⟩ := h
      refine w_callV1 (M2 := m_X2_kindOf) (av := [va_rf (some (a3))]) (ci := 2) (c_X2_kindOf _ _ _ e8) dX11_as_30 kd_X2_kindOf wd_47_20 wd_47_21 wd_47_22 rfl rfl ⟨rfl, Or.inr ⟨rfl, by decide⟩⟩ rfl ⟨Nat.le_of_ble_eq_true rfl, Nat.le_of_ble_eq_true rfl, Nat.le_of_ble_eq_true rfl, Nat.le_of_ble_eq_true rfl⟩ (Nat.le_of_ble_eq_true rfl) ?_
      refine w_istore dX11_as_33 (by decide) rfl ?_
      refine w_iload_n 4 dX11_as_35 rfl rfl ?_
      refine w_iload 0 dX11_as_36 rfl ?_
      refine w_icmp_eq 56 dX11_as_38 (by decide) (fun c9 => ?_) (fun c9 => ?_)
      · replace h := e_t c9 h
        refine w_sub [2, 1] rfl ?_
        exact l_X11_as_56 _ _ _ h
      · replace h := e_f c9 h
        refine w_iload_n 4 dX11_as_41 rfl rfl ?_
        refine w_if_eq 56 dX11_as_42 (by decide) (fun c10 => ?_) (fun c10 => ?_)
        · replace h := e_t c10 h
          refine w_sub [2, 1] rfl ?_
          exact l_X11_as_56 _ _ _ h
        · replace h := e_f c10 h
          refine w_iload_n 4 dX11_as_45 rfl rfl ?_
          refine w_iconst (v := 1) dX11_as_46 (by decide) ?_
          refine w_icmp_ne 60 dX11_as_47 (by decide) (fun c11 => ?_) (fun c11 => ?_)
          · replace h := e_f c11 h
            refine w_sub [2, 1] rfl ?_
            exact l_X11_as_60 _ _ _ h
          · replace h := e_t c11 h
            refine w_iload 0 dX11_as_50 rfl ?_
            refine w_iconst (v := 2) dX11_as_52 (by decide) ?_
            refine w_icmp_ne 60 dX11_as_53 (by decide) (fun c12 => ?_) (fun c12 => ?_)
            · replace h := e_f c12 h
              refine w_sub [2, 1] rfl ?_
              exact l_X11_as_60 _ _ _ h
            · replace h := e_t c12 h
              refine w_sub [2, 1] rfl ?_
              exact l_X11_as_56 _ _ _ h
    · replace h := e_t c6 h
      refine w_sub [] rfl ?_
      exact l_X11_as_22 _ _ h
theorem dX0_body_0 : decode cX0_body 0 = .ok (.iload_n 2, 1) := by decide +kernel
theorem dX0_body_1 : decode cX0_body 1 = .ok (.bipush 16, 2) := by decide +kernel
theorem dX0_body_3 : decode cX0_body 3 = .ok (.if_icmp .gt 10, 3) := by decide +kernel
theorem dX0_body_6 : decode cX0_body 6 = .ok (.aload_n 0, 1) := by decide +kernel
theorem dX0_body_7 : decode cX0_body 7 = .ok (.getfield 17, 3) := by decide +kernel
theorem dX0_body_10 : decode cX0_body 10 = .ok (.ifnonnull 5, 3) := by decide +kernel
theorem dX0_body_13 : decode cX0_body 13 = .ok (.iconst 0, 1) := by decide +kernel
theorem dX0_body_14 : decode cX0_body 14 = .ok (.ireturn, 1) := by decide +kernel
theorem dX0_body_15 : decode cX0_body 15 = .ok (.aload_n 0, 1) := by decide +kernel
theorem dX0_body_16 : decode cX0_body 16 = .ok (.getfield 13, 3) := by decide +kernel
theorem dX0_body_19 : decode cX0_body 19 = .ok (.bipush 16, 2) := by decide +kernel
theorem dX0_body_21 : decode cX0_body 21 = .ok (.if_icmp .ge 23, 3) := by decide +kernel
theorem dX0_body_24 : decode cX0_body 24 = .ok (.aload_n 0, 1) := by decide +kernel
theorem dX0_body_25 : decode cX0_body 25 = .ok (.getfield 9, 3) := by decide +kernel
theorem dX0_body_28 : decode cX0_body 28 = .ok (.aload_n 0, 1) := by decide +kernel
theorem dX0_body_29 : decode cX0_body 29 = .ok (.getfield 13, 3) := by decide +kernel
theorem dX0_body_32 : decode cX0_body 32 = .ok (.iload_n 1, 1) := by decide +kernel
theorem dX0_body_33 : decode cX0_body 33 = .ok (.iastore, 1) := by decide +kernel
theorem dX0_body_34 : decode cX0_body 34 = .ok (.aload_n 0, 1) := by decide +kernel
theorem dX0_body_35 : decode cX0_body 35 = .ok (.dup, 1) := by decide +kernel
theorem dX0_body_36 : decode cX0_body 36 = .ok (.getfield 13, 3) := by decide +kernel
theorem dX0_body_39 : decode cX0_body 39 = .ok (.iconst 1, 1) := by decide +kernel
theorem dX0_body_40 : decode cX0_body 40 = .ok (.iadd, 1) := by decide +kernel
theorem dX0_body_41 : decode cX0_body 41 = .ok (.putfield 13, 3) := by decide +kernel
theorem dX0_body_44 : decode cX0_body 44 = .ok (.iload_n 1, 1) := by decide +kernel
theorem dX0_body_45 : decode cX0_body 45 = .ok (.tableswitch 195 10 23 #[71, 79, 94, 106, 195, 195, 195, 195, 195, 195, 131, 139, 164, 177], 71) := by decide +kernel
theorem dX0_body_116 : decode cX0_body 116 = .ok (.aload_n 0, 1) := by decide +kernel
theorem dX0_body_117 : decode cX0_body 117 = .ok (.getfield 17, 3) := by decide +kernel
theorem dX0_body_120 : decode cX0_body 120 = .ok (.getfield 31, 3) := by decide +kernel
theorem dX0_body_123 : decode cX0_body 123 = .ok (.ireturn, 1) := by decide +kernel
theorem dX0_body_124 : decode cX0_body 124 = .ok (.aload_n 0, 1) := by decide +kernel
theorem dX0_body_125 : decode cX0_body 125 = .ok (.bipush 10, 2) := by decide +kernel
theorem dX0_body_127 : decode cX0_body 127 = .ok (.iload_n 2, 1) := by decide +kernel
theorem dX0_body_128 : decode cX0_body 128 = .ok (.iconst 1, 1) := by decide +kernel
theorem dX0_body_129 : decode cX0_body 129 = .ok (.iadd, 1) := by decide +kernel
theorem dX0_body_130 : decode cX0_body 130 = .ok (.invokevirtual 27, 3) := by decide +kernel
theorem dX0_body_133 : decode cX0_body 133 = .ok (.aload_n 0, 1) := by decide +kernel
theorem dX0_body_134 : decode cX0_body 134 = .ok (.getfield 24, 3) := by decide +kernel
theorem dX0_body_137 : decode cX0_body 137 = .ok (.isub, 1) := by decide +kernel
theorem dX0_body_138 : decode cX0_body 138 = .ok (.ireturn, 1) := by decide +kernel
theorem dX0_body_139 : decode cX0_body 139 = .ok (.aload_n 0, 1) := by decide +kernel
theorem dX0_body_140 : decode cX0_body 140 = .ok (.bipush 11, 2) := by decide +kernel
theorem dX0_body_142 : decode cX0_body 142 = .ok (.iload_n 2, 1) := by decide +kernel
theorem dX0_body_143 : decode cX0_body 143 = .ok (.iconst 1, 1) := by decide +kernel
theorem dX0_body_144 : decode cX0_body 144 = .ok (.iadd, 1) := by decide +kernel
theorem dX0_body_145 : decode cX0_body 145 = .ok (.invokevirtual 27, 3) := by decide +kernel
theorem dX0_body_148 : decode cX0_body 148 = .ok (.iconst 2, 1) := by decide +kernel
theorem dX0_body_149 : decode cX0_body 149 = .ok (.idiv, 1) := by decide +kernel
theorem dX0_body_150 : decode cX0_body 150 = .ok (.ireturn, 1) := by decide +kernel
theorem dX0_body_151 : decode cX0_body 151 = .ok (.aload_n 0, 1) := by decide +kernel
theorem dX0_body_152 : decode cX0_body 152 = .ok (.bipush 10, 2) := by decide +kernel
theorem dX0_body_154 : decode cX0_body 154 = .ok (.iload_n 2, 1) := by decide +kernel
theorem dX0_body_155 : decode cX0_body 155 = .ok (.iconst 1, 1) := by decide +kernel
theorem dX0_body_156 : decode cX0_body 156 = .ok (.iadd, 1) := by decide +kernel
theorem dX0_body_157 : decode cX0_body 157 = .ok (.invokevirtual 27, 3) := by decide +kernel
theorem dX0_body_160 : decode cX0_body 160 = .ok (.aload_n 0, 1) := by decide +kernel
theorem dX0_body_161 : decode cX0_body 161 = .ok (.bipush 20, 2) := by decide +kernel
theorem dX0_body_163 : decode cX0_body 163 = .ok (.aload_n 0, 1) := by decide +kernel
theorem dX0_body_164 : decode cX0_body 164 = .ok (.getfield 21, 3) := by decide +kernel
theorem dX0_body_167 : decode cX0_body 167 = .ok (.iadd, 1) := by decide +kernel
theorem dX0_body_168 : decode cX0_body 168 = .ok (.iload_n 2, 1) := by decide +kernel
theorem dX0_body_169 : decode cX0_body 169 = .ok (.iconst 1, 1) := by decide +kernel
theorem dX0_body_170 : decode cX0_body 170 = .ok (.iadd, 1) := by decide +kernel
theorem dX0_body_171 : decode cX0_body 171 = .ok (.invokevirtual 27, 3) := by decide +kernel
theorem dX0_body_174 : decode cX0_body 174 = .ok (.iadd, 1) := by decide +kernel
theorem dX0_body_175 : decode cX0_body 175 = .ok (.ireturn, 1) := by decide +kernel
theorem dX0_body_176 : decode cX0_body 176 = .ok (.aload_n 0, 1) := by decide +kernel
theorem dX0_body_177 : decode cX0_body 177 = .ok (.getfield 17, 3) := by decide +kernel
theorem dX0_body_180 : decode cX0_body 180 = .ok (.getfield 36, 3) := by decide +kernel
theorem dX0_body_183 : decode cX0_body 183 = .ok (.ireturn, 1) := by decide +kernel
theorem dX0_body_184 : decode cX0_body 184 = .ok (.aload_n 0, 1) := by decide +kernel
theorem dX0_body_185 : decode cX0_body 185 = .ok (.bipush 20, 2) := by decide +kernel
theorem dX0_body_187 : decode cX0_body 187 = .ok (.iload_n 2, 1) := by decide +kernel
theorem dX0_body_188 : decode cX0_body 188 = .ok (.iconst 1, 1) := by decide +kernel
theorem dX0_body_189 : decode cX0_body 189 = .ok (.iadd, 1) := by decide +kernel
theorem dX0_body_190 : decode cX0_body 190 = .ok (.invokevirtual 27, 3) := by decide +kernel
theorem dX0_body_193 : decode cX0_body 193 = .ok (.aload_n 0, 1) := by decide +kernel
theorem dX0_body_194 : decode cX0_body 194 = .ok (.bipush 10, 2) := by decide +kernel
theorem dX0_body_196 : decode cX0_body 196 = .ok (.aload_n 0, 1) := by decide +kernel
theorem dX0_body_197 : decode cX0_body 197 = .ok (.getfield 21, 3) := by decide +kernel
theorem dX0_body_200 : decode cX0_body 200 = .ok (.iadd, 1) := by decide +kernel
theorem dX0_body_201 : decode cX0_body 201 = .ok (.iload_n 2, 1) := by decide +kernel
theorem dX0_body_202 : decode cX0_body 202 = .ok (.iconst 1, 1) := by decide +kernel
theorem dX0_body_203 : decode cX0_body 203 = .ok (.iadd, 1) := by decide +kernel
theorem dX0_body_204 : decode cX0_body 204 = .ok (.invokevirtual 27, 3) := by decide +kernel
theorem dX0_body_207 : decode cX0_body 207 = .ok (.iadd, 1) := by decide +kernel
theorem dX0_body_208 : decode cX0_body 208 = .ok (.ireturn, 1) := by decide +kernel
theorem dX0_body_209 : decode cX0_body 209 = .ok (.aload_n 0, 1) := by decide +kernel
theorem dX0_body_210 : decode cX0_body 210 = .ok (.bipush 21, 2) := by decide +kernel
theorem dX0_body_212 : decode cX0_body 212 = .ok (.iload_n 2, 1) := by decide +kernel
theorem dX0_body_213 : decode cX0_body 213 = .ok (.iconst 1, 1) := by decide +kernel
theorem dX0_body_214 : decode cX0_body 214 = .ok (.iadd, 1) := by decide +kernel
theorem dX0_body_215 : decode cX0_body 215 = .ok (.invokevirtual 27, 3) := by decide +kernel
theorem dX0_body_218 : decode cX0_body 218 = .ok (.bipush 100, 2) := by decide +kernel
theorem dX0_body_220 : decode cX0_body 220 = .ok (.iadd, 1) := by decide +kernel
theorem dX0_body_221 : decode cX0_body 221 = .ok (.ireturn, 1) := by decide +kernel
theorem dX0_body_222 : decode cX0_body 222 = .ok (.aload_n 0, 1) := by decide +kernel
theorem dX0_body_223 : decode cX0_body 223 = .ok (.bipush 20, 2) := by decide +kernel
theorem dX0_body_225 : decode cX0_body 225 = .ok (.iload_n 2, 1) := by decide +kernel
theorem dX0_body_226 : decode cX0_body 226 = .ok (.iconst 1, 1) := by decide +kernel
theorem dX0_body_227 : decode cX0_body 227 = .ok (.iadd, 1) := by decide +kernel
theorem dX0_body_228 : decode cX0_body 228 = .ok (.invokevirtual 27, 3) := by decide +kernel
theorem dX0_body_231 : decode cX0_body 231 = .ok (.aload_n 0, 1) := by decide +kernel
theorem dX0_body_232 : decode cX0_body 232 = .ok (.getfield 17, 3) := by decide +kernel
theorem dX0_body_235 : decode cX0_body 235 = .ok (.getfield 39, 3) := by decide +kernel
theorem dX0_body_238 : decode cX0_body 238 = .ok (.iadd, 1) := by decide +kernel
theorem dX0_body_239 : decode cX0_body 239 = .ok (.ireturn, 1) := by decide +kernel
theorem dX0_body_240 : decode cX0_body 240 = .ok (.iconst 0, 1) := by decide +kernel
theorem dX0_body_241 : decode cX0_body 241 = .ok (.ireturn, 1) := by decide +kernel
theorem fit_X0_body (d : Nat) : aFit (m_X0_body (d + 1)) (m_X0_body d) 0 0 := ⟨by show d + 2 + 1 ≤ d + 1 + 2; omega, by show 8 + (3 + 11) + (60 * d + 80) ≤ 60 * (d + 1) + 80; omega, Nat.le_refl _, Nat.le_refl _⟩
theorem kd_X0_body (d : Nat) : aKd (m_X0_body d) 2 := ⟨wd_49_6, wd_2_17, ⟨by show yX0_body.cls ≠ _; decide +kernel, by show yX0_body.cls ≠ _; decide +kernel, by show (parseMethodDescriptor yX0_body.desc).map (fun d => d.parameters.length) = some 2; decide +kernel⟩⟩
set_option maxRecDepth 100000 in
set_option maxHeartbeats 4000000 in
theorem l_X0_body_13 (d : Nat) (self : Int32 → Int32 → aSt → Option (Int32 × aSt)) (hself : ∀ (p1 : Int32) (p2 : Int32) (σ : aSt) (o : Int32 × aSt), self p1 p2 σ = some o → AM true (m_X0_body d) [va_rf (some (32)), .int (p1), .int (p2)] σ (some (.int o.1)) o.2)   (σ : aSt) (o : Int32 × aSt) (h : f_X0_body_13 self   σ = some o) : AW true (m_X0_body (d + 1)) 13 [] [] σ 0 0 (some (.int o.1)) o.2 := by
  unfold f_X0_body_13 at h
  refine w_iconst (v := 0) dX0_body_13 (by decide) ?_
  obtain rfl := Option.some.inj h
  exact w_ireturn dX0_body_14 rfl (Nat.le_of_ble_eq_true rfl) (Nat.le_of_ble_eq_true rfl)
set_option maxRecDepth 100000 in
set_option maxHeartbeats 4000000 in
theorem l_X0_body_44 (d : Nat) (self : Int32 → Int32 → aSt → Option (Int32 × aSt)) (hself : ∀ (p1 : Int32) (p2 : Int32) (σ : aSt) (o : Int32 × aSt), self p1 p2 σ = some o → AM true (m_X0_body d) [va_rf (some (32)), .int (p1), .int (p2)] σ (some (.int o.1)) o.2)  (x1 : Int32) (x2 : Int32) (σ : aSt) (o : Int32 × aSt) (h : f_X0_body_44 self  x1 x2 σ = some o) : AW true (m_X0_body (d + 1)) 44 [(0, va_rf (some (32))), (1, Value.int (x1)), (2, Value.int (x2))] [] σ 0 0 (some (.int o.1)) o.2 := by
  unfold f_X0_body_44 at h
  refine w_iload_n 1 dX0_body_44 rfl rfl ?_
  replace h := e_ite h; rcases h with ⟨c6, h⟩ | ⟨c6, h⟩
  · subst c6
    refine w_tabIn (off := 71) 116 dX0_body_45 (by decide) (by decide) (by decide +kernel) (by decide) ?_
    refine w_aload_n 0 ((some (32))) dX0_body_116 rfl rfl ?_
    refine w_get dX0_body_117 fl_RX0_17 ⟨rfl, Or.inr ⟨rfl, by decide⟩⟩ (aFv_q (Or.inl rfl)) ?_
    replace h := e_oS h; obtain ⟨a7, r8, h⟩ := h
    rw [r8]
    replace h := e_grd h; obtain ⟨g9, h⟩ := h
    refine w_get dX0_body_120 fl_RX0_31 ⟨g9.1, Or.inl g9.2⟩ (aFv_i rfl) ?_
    obtain rfl := Option.some.inj h
    exact w_ireturn dX0_body_123 rfl (Nat.le_of_ble_eq_true rfl) (Nat.le_of_ble_eq_true rfl)
  · replace h := e_ite h; rcases h with ⟨c10, h⟩ | ⟨c10, h⟩
    · subst c10
      refine w_tabIn (off := 79) 124 dX0_body_45 (by decide) (by decide) (by decide +kernel) (by decide) ?_
      refine w_aload_n 0 ((some (32))) dX0_body_124 rfl rfl ?_
      refine w_bipush (v := 10) dX0_body_125 (by decide) ?_
      refine w_iload_n 2 dX0_body_127 rfl rfl ?_
      refine w_iconst (v := 1) dX0_body_128 (by decide) ?_
      refine w_iadd dX0_body_129 ?_
      replace h := e_bind h; obtain ⟨q11, e12, h⟩ := h
      refine w_callV1 (M2 := (m_X0_body d)) (av := [.int (10), .int (x2 + 1)]) (ci := 0) (hself _ _ _ _ e12) dX0_body_130 (kd_X0_body _) wd_49_3 wd_49_4 wd_49_5 rfl rfl ⟨rfl, Or.inr ⟨rfl, by decide⟩⟩ rfl (fit_X0_body d) (Nat.le_of_ble_eq_true rfl) ?_
      refine w_aload_n 0 ((some (32))) dX0_body_133 rfl rfl ?_
      refine w_get dX0_body_134 fl_RX0_24 ⟨rfl, Or.inr ⟨rfl, by decide⟩⟩ (aFv_i rfl) ?_
      refine w_isub dX0_body_137 ?_
      obtain rfl := Option.some.inj h
      exact w_ireturn dX0_body_138 rfl (Nat.le_of_ble_eq_true rfl) (Nat.le_of_ble_eq_true rfl)
    · replace h := e_ite h; rcases h with ⟨c13, h⟩ | ⟨c13, h⟩
      · subst c13
        refine w_tabIn (off := 94) 139 dX0_body_45 (by decide) (by decide) (by decide +kernel) (by decide) ?_
        refine w_aload_n 0 ((some (32))) dX0_body_139 rfl rfl ?_
        refine w_bipush (v := 11) dX0_body_140 (by decide) ?_
        refine w_iload_n 2 dX0_body_142 rfl rfl ?_
        refine w_iconst (v := 1) dX0_body_143 (by decide) ?_
        refine w_iadd dX0_body_144 ?_
        replace h := e_bind h; obtain ⟨q14, e15, h⟩ := h
        refine w_callV1 (M2 := (m_X0_body d)) (av := [.int (11), .int (x2 + 1)]) (ci := 0) (hself _ _ _ _ e15) dX0_body_145 (kd_X0_body _) wd_49_3 wd_49_4 wd_49_5 rfl rfl ⟨rfl, Or.inr ⟨rfl, by decide⟩⟩ rfl (fit_X0_body d) (Nat.le_of_ble_eq_true rfl) ?_
        refine w_iconst (v := 2) dX0_body_148 (by decide) ?_
        refine w_idiv dX0_body_149 (by decide) ?_
        obtain rfl := Option.some.inj h
        exact w_ireturn dX0_body_150 rfl (Nat.le_of_ble_eq_true rfl) (Nat.le_of_ble_eq_true rfl)
      · replace h := e_ite h; rcases h with ⟨c16, h⟩ | ⟨c16, h⟩
        · subst c16
          refine w_tabIn (off := 106) 151 dX0_body_45 (by decide) (by decide) (by decide +kernel) (by decide) ?_
          refine w_aload_n 0 ((some (32))) dX0_body_151 rfl rfl ?_
          refine w_bipush (v := 10) dX0_body_152 (by decide) ?_
          refine w_iload_n 2 dX0_body_154 rfl rfl ?_
          refine w_iconst (v := 1) dX0_body_155 (by decide) ?_
          refine w_iadd dX0_body_156 ?_
          replace h := e_bind h; obtain ⟨q17, e18, h⟩ := h
          refine w_callV1 (M2 := (m_X0_body d)) (av := [.int (10), .int (x2 + 1)]) (ci := 0) (hself _ _ _ _ e18) dX0_body_157 (kd_X0_body _) wd_49_3 wd_49_4 wd_49_5 rfl rfl ⟨rfl, Or.inr ⟨rfl, by decide⟩⟩ rfl (fit_X0_body d) (Nat.le_of_ble_eq_true rfl) ?_
          refine w_aload_n 0 ((some (32))) dX0_body_160 rfl rfl ?_
          refine w_bipush (v := 20) dX0_body_161 (by decide) ?_
          refine w_aload_n 0 ((some (32))) dX0_body_163 rfl rfl ?_
          refine w_get dX0_body_164 fl_RX0_21 ⟨rfl, Or.inr ⟨rfl, by decide⟩⟩ (aFv_i rfl) ?_
          refine w_iadd dX0_body_167 ?_
          refine w_iload_n 2 dX0_body_168 rfl rfl ?_
          refine w_iconst (v := 1) dX0_body_169 (by decide) ?_
          refine w_iadd dX0_body_170 ?_
          replace h := e_bind h; obtain ⟨q19, e20, h⟩ := h
          refine w_callV1 (M2 := (m_X0_body d)) (av := [.int (20 + (gI q17.2 32 3)), .int (x2 + 1)]) (ci := 0) (hself _ _ _ _ e20) dX0_body_171 (kd_X0_body _) wd_49_3 wd_49_4 wd_49_5 rfl rfl ⟨rfl, Or.inr ⟨rfl, by decide⟩⟩ rfl (fit_X0_body d) (Nat.le_of_ble_eq_true rfl) ?_
          refine w_iadd dX0_body_174 ?_
          obtain rfl := Option.some.inj h
          exact w_ireturn dX0_body_175 rfl (Nat.le_of_ble_eq_true rfl) (Nat.le_of_ble_eq_true rfl)
        · replace h := e_ite h; rcases h with ⟨c21, h⟩ | ⟨c21, h⟩
          · subst c21
            refine w_tabIn (off := 195) 240 dX0_body_45 (by decide) (by decide) (by decide +kernel) (by decide) ?_
            refine w_iconst (v := 0) dX0_body_240 (by decide) ?_
            obtain rfl := Option.some.inj h
            exact w_ireturn dX0_body_241 rfl (Nat.le_of_ble_eq_true rfl) (Nat.le_of_ble_eq_true rfl)
          · replace h := e_ite h; rcases h with ⟨c22, h⟩ | ⟨c22, h⟩
            · subst c22
              refine w_tabIn (off := 195) 240 dX0_body_45 (by decide) (by decide) (by decide +kernel) (by decide) ?_
              refine w_iconst (v := 0) dX0_body_240 (by decide) ?_
              obtain rfl := Option.some.inj h
              exact w_ireturn dX0_body_241 rfl (Nat.le_of_ble_eq_true rfl) (Nat.le_of_ble_eq_true rfl)
            · replace h := e_ite h; rcases h with ⟨c23, h⟩ | ⟨c23, h⟩
              · subst c23
                refine w_tabIn (off := 195) 240 dX0_body_45 (by decide) (by decide) (by decide +kernel) (by decide) ?_
                refine w_iconst (v := 0) dX0_body_240 (by decide) ?_
                obtain rfl := Option.some.inj h
                exact w_ireturn dX0_body_241 rfl (Nat.le_of_ble_eq_true rfl) (Nat.le_of_ble_eq_true rfl)
              · replace h := e_ite h; rcases h with ⟨c24, h⟩ | ⟨c24, h⟩
                · subst c24
                  refine w_tabIn (off := 195) 240 dX0_body_45 (by decide) (by decide) (by decide +kernel) (by decide) ?_
                  refine w_iconst (v := 0) dX0_body_240 (by decide) ?_
                  obtain rfl := Option.some.inj h
                  exact w_ireturn dX0_body_241 rfl (Nat.le_of_ble_eq_true rfl) (Nat.le_of_ble_eq_true rfl)
                · replace h := e_ite h; rcases h with ⟨c25, h⟩ | ⟨c25, h⟩
                  · subst c25
                    refine w_tabIn (off := 195) 240 dX0_body_45 (by decide) (by decide) (by decide +kernel) (by decide) ?_
                    refine w_iconst (v := 0) dX0_body_240 (by decide) ?_
                    obtain rfl := Option.some.inj h
                    exact w_ireturn dX0_body_241 rfl (Nat.le_of_ble_eq_true rfl) (Nat.le_of_ble_eq_true rfl)
                  · replace h := e_ite h; rcases h with ⟨c26, h⟩ | ⟨c26, h⟩
                    · subst c26
                      refine w_tabIn (off := 195) 240 dX0_body_45 (by decide) (by decide) (by decide +kernel) (by decide) ?_
                      refine w_iconst (v := 0) dX0_body_240 (by decide) ?_
                      obtain rfl := Option.some.inj h
                      exact w_ireturn dX0_body_241 rfl (Nat.le_of_ble_eq_true rfl) (Nat.le_of_ble_eq_true rfl)
                    · replace h := e_ite h; rcases h with ⟨c27, h⟩ | ⟨c27, h⟩
                      · subst c27
                        refine w_tabIn (off := 131) 176 dX0_body_45 (by decide) (by decide) (by decide +kernel) (by decide) ?_
                        refine w_aload_n 0 ((some (32))) dX0_body_176 rfl rfl ?_
                        refine w_get dX0_body_177 fl_RX0_17 ⟨rfl, Or.inr ⟨rfl, by decide⟩⟩ (aFv_q (Or.inl rfl)) ?_
                        replace h := e_oS h; obtain ⟨a28, r29, h⟩ := h
                        rw [r29]
                        replace h := e_grd h; obtain ⟨g30, h⟩ := h
                        refine w_get dX0_body_180 fl_RX0_36 ⟨g30.1, Or.inl g30.2⟩ (aFv_i rfl) ?_
                        obtain rfl := Option.some.inj h
                        exact w_ireturn dX0_body_183 rfl (Nat.le_of_ble_eq_true rfl) (Nat.le_of_ble_eq_true rfl)
                      · replace h := e_ite h; rcases h with ⟨c31, h⟩ | ⟨c31, h⟩
                        · subst c31
                          refine w_tabIn (off := 139) 184 dX0_body_45 (by decide) (by decide) (by decide +kernel) (by decide) ?_
                          refine w_aload_n 0 ((some (32))) dX0_body_184 rfl rfl ?_
                          refine w_bipush (v := 20) dX0_body_185 (by decide) ?_
                          refine w_iload_n 2 dX0_body_187 rfl rfl ?_
                          refine w_iconst (v := 1) dX0_body_188 (by decide) ?_
                          refine w_iadd dX0_body_189 ?_
                          replace h := e_bind h; obtain ⟨q32, e33, h⟩ := h
                          refine w_callV1 (M2 := (m_X0_body d)) (av := [.int (20), .int (x2 + 1)]) (ci := 0) (hself _ _ _ _ e33) dX0_body_190 (kd_X0_body _) wd_49_3 wd_49_4 wd_49_5 rfl rfl ⟨rfl, Or.inr ⟨rfl, by decide⟩⟩ rfl (fit_X0_body d) (Nat.le_of_ble_eq_true rfl) ?_
                          refine w_aload_n 0 ((some (32))) dX0_body_193 rfl rfl ?_
                          refine w_bipush (v := 10) dX0_body_194 (by decide) ?_
                          refine w_aload_n 0 ((some (32))) dX0_body_196 rfl rfl ?_
                          refine w_get dX0_body_197 fl_RX0_21 ⟨rfl, Or.inr ⟨rfl, by decide⟩⟩ (aFv_i rfl) ?_
                          refine w_iadd dX0_body_200 ?_
                          refine w_iload_n 2 dX0_body_201 rfl rfl ?_
                          refine w_iconst (v := 1) dX0_body_202 (by decide) ?_
                          refine w_iadd dX0_body_203 ?_
                          replace h := e_bind h; obtain ⟨q34, e35, h⟩ := h
                          refine w_callV1 (M2 := (m_X0_body d)) (av := [.int (10 + (gI q32.2 32 3)), .int (x2 + 1)]) (ci := 0) (hself _ _ _ _ e35) dX0_body_204 (kd_X0_body _) wd_49_3 wd_49_4 wd_49_5 rfl rfl ⟨rfl, Or.inr ⟨rfl, by decide⟩⟩ rfl (fit_X0_body d) (Nat.le_of_ble_eq_true rfl) ?_
                          refine w_iadd dX0_body_207 ?_
                          obtain rfl := Option.some.inj h
                          exact w_ireturn dX0_body_208 rfl (Nat.le_of_ble_eq_true rfl) (Nat.le_of_ble_eq_true rfl)
                        · replace h := e_ite h; rcases h with ⟨c36, h⟩ | ⟨c36, h⟩
                          · subst c36
                            refine w_tabIn (off := 164) 209 dX0_body_45 (by decide) (by decide) (by decide +kernel) (by decide) ?_
                            refine w_aload_n 0 ((some (32))) dX0_body_209 rfl rfl ?_
                            refine w_bipush (v := 21) dX0_body_210 (by decide) ?_
                            refine w_iload_n 2 dX0_body_212 rfl rfl ?_
                            refine w_iconst (v := 1) dX0_body_213 (by decide) ?_
                            refine w_iadd dX0_body_214 ?_
                            replace h := e_bind h; obtain ⟨q37, e38, h⟩ := h
                            refine w_callV1 (M2 := (m_X0_body d)) (av := [.int (21), .int (x2 + 1)]) (ci := 0) (hself _ _ _ _ e38) dX0_body_215 (kd_X0_body _) wd_49_3 wd_49_4 wd_49_5 rfl rfl ⟨rfl, Or.inr ⟨rfl, by decide⟩⟩ rfl (fit_X0_body d) (Nat.le_of_ble_eq_true rfl) ?_
                            refine w_bipush (v := 100) dX0_body_218 (by decide) ?_
                            refine w_iadd dX0_body_220 ?_
                            obtain rfl := Option.some.inj h
                            exact w_ireturn dX0_body_221 rfl (Nat.le_of_ble_eq_true rfl) (Nat.le_of_ble_eq_true rfl)
                          · replace h := e_ite h; rcases h with ⟨c39, h⟩ | ⟨c39, h⟩
                            · subst c39
                              refine w_tabIn (off := 177) 222 dX0_body_45 (by decide) (by decide) (by decide +kernel) (by decide) ?_
                              refine w_aload_n 0 ((some (32))) dX0_body_222 rfl rfl ?_
                              refine w_bipush (v := 20) dX0_body_223 (by decide) ?_
                              refine w_iload_n 2 dX0_body_225 rfl rfl ?_
                              refine w_iconst (v := 1) dX0_body_226 (by decide) ?_
                              refine w_iadd dX0_body_227 ?_
                              replace h := e_bind h; obtain ⟨q40, e41, h⟩ := h
                              refine w_callV1 (M2 := (m_X0_body d)) (av := [.int (20), .int (x2 + 1)]) (ci := 0) (hself _ _ _ _ e41) dX0_body_228 (kd_X0_body _) wd_49_3 wd_49_4 wd_49_5 rfl rfl ⟨rfl, Or.inr ⟨rfl, by decide⟩⟩ rfl (fit_X0_body d) (Nat.le_of_ble_eq_true rfl) ?_
                              refine w_aload_n 0 ((some (32))) dX0_body_231 rfl rfl ?_
                              refine w_get dX0_body_232 fl_RX0_17 ⟨rfl, Or.inr ⟨rfl, by decide⟩⟩ (aFv_q (Or.inl rfl)) ?_
                              replace h := e_oS h; obtain ⟨a42, r43, h⟩ := h
                              rw [r43]
                              replace h := e_grd h; obtain ⟨g44, h⟩ := h
                              refine w_get dX0_body_235 fl_RX0_39 ⟨g44.1, Or.inl g44.2⟩ (aFv_i rfl) ?_
                              refine w_iadd dX0_body_238 ?_
                              obtain rfl := Option.some.inj h
                              exact w_ireturn dX0_body_239 rfl (Nat.le_of_ble_eq_true rfl) (Nat.le_of_ble_eq_true rfl)
                            · refine w_tabOut 240 dX0_body_45 (by have zc6 := lv_neT (a := 10) c6 (by decide); have zc10 := lv_neT (a := 11) c10 (by decide); have zc13 := lv_neT (a := 12) c13 (by decide); have zc16 := lv_neT (a := 13) c16 (by decide); have zc21 := lv_neT (a := 14) c21 (by decide); have zc22 := lv_neT (a := 15) c22 (by decide); have zc23 := lv_neT (a := 16) c23 (by decide); have zc24 := lv_neT (a := 17) c24 (by decide); have zc25 := lv_neT (a := 18) c25 (by decide); have zc26 := lv_neT (a := 19) c26 (by decide); have zc27 := lv_neT (a := 20) c27 (by decide); have zc31 := lv_neT (a := 21) c31 (by decide); have zc36 := lv_neT (a := 22) c36 (by decide); have zc39 := lv_neT (a := 23) c39 (by decide); omega) (by decide) ?_
                              refine w_iconst (v := 0) dX0_body_240 (by decide) ?_
                              obtain rfl := Option.some.inj h
                              exact w_ireturn dX0_body_241 rfl (Nat.le_of_ble_eq_true rfl) (Nat.le_of_ble_eq_true rfl)
set_option maxRecDepth 100000 in
set_option maxHeartbeats 4000000 in
theorem c_X0_body_b (d : Nat) (self : Int32 → Int32 → aSt → Option (Int32 × aSt)) (hself : ∀ (p1 : Int32) (p2 : Int32) (σ : aSt) (o : Int32 × aSt), self p1 p2 σ = some o → AM true (m_X0_body d) [va_rf (some (32)), .int (p1), .int (p2)] σ (some (.int o.1)) o.2) (p1 : Int32) (p2 : Int32) (σ : aSt) (o : Int32 × aSt) (h : f_X0_body_b self p1 p2 σ = some o) : AM true (m_X0_body (d + 1)) [va_rf (some (32)), .int (p1), .int (p2)] σ (some (.int o.1)) o.2 := by
  refine AM_of2 (lv := [(0, va_rf (some (32))), (1, Value.int (p1)), (2, Value.int (p2))]) (by show plainName yX0_body.cls = true; decide +kernel) rfl (Nat.le_of_ble_eq_true rfl) ?_
  unfold f_X0_body_b at h
  refine w_iload_n 2 dX0_body_0 rfl rfl ?_
  refine w_bipush (v := 16) dX0_body_1 (by decide) ?_
  refine w_icmp_gt 13 dX0_body_3 (by decide) (fun c1 => ?_) (fun c1 => ?_)
  · replace h := e_t c1 h
    refine w_sub [] rfl ?_
    exact l_X0_body_13 d self hself _ _ h
  · replace h := e_f c1 h
    refine w_aload_n 0 ((some (32))) dX0_body_6 rfl rfl ?_
    refine w_get dX0_body_7 fl_RX0_17 ⟨rfl, Or.inr ⟨rfl, by decide⟩⟩ (aFv_q (Or.inl rfl)) ?_
    replace h := e_oC h; rcases h with ⟨r5, h⟩ | ⟨a2, r5, h⟩
    · rw [r5]
      refine w_ifnonnull0 dX0_body_10 ?_
      refine w_sub [] rfl ?_
      exact l_X0_body_13 d self hself _ _ h
    · rw [r5]
      refine w_ifnonnull1 15 dX0_body_10 (by decide) ?_
      refine w_aload_n 0 ((some (32))) dX0_body_15 rfl rfl ?_
      refine w_get dX0_body_16 fl_RX0_13 ⟨rfl, Or.inr ⟨rfl, by decide⟩⟩ (aFv_i rfl) ?_
      refine w_bipush (v := 16) dX0_body_19 (by decide) ?_
      refine w_icmp_ge 44 dX0_body_21 (by decide) (fun c3 => ?_) (fun c3 => ?_)
      · replace h := e_t c3 h
        exact l_X0_body_44 d self hself _ _ _ _ h
      · replace h := e_f c3 h
        refine w_aload_n 0 ((some (32))) dX0_body_24 rfl rfl ?_
        refine w_get (v := va_rf (some 33)) dX0_body_25 fl_RX0_9 ⟨rfl, Or.inr ⟨rfl, by decide⟩⟩ (aFv_k rfl) ?_
        refine w_aload_n 0 ((some (32))) dX0_body_28 rfl rfl ?_
        refine w_get dX0_body_29 fl_RX0_13 ⟨rfl, Or.inr ⟨rfl, by decide⟩⟩ (aFv_i rfl) ?_
        refine w_iload_n 1 dX0_body_32 rfl rfl ?_
        replace h := e_grd h; obtain ⟨b4, h⟩ := h
        refine w_iastore dX0_body_33 ⟨rfl, Or.inr ⟨rfl, by decide⟩⟩ b4 ?_
        refine w_aload_n 0 ((some (32))) dX0_body_34 rfl rfl ?_
        refine w_dup dX0_body_35 (aRf_cat _) ?_
        refine w_get dX0_body_36 fl_RX0_13 ⟨rfl, Or.inr ⟨rfl, by decide⟩⟩ (aFv_i rfl) ?_
        refine w_iconst (v := 1) dX0_body_39 (by decide) ?_
        refine w_iadd dX0_body_40 ?_
        refine w_putI dX0_body_41 fl_RX0_13 (Or.inl rfl) rfl ⟨rfl, Or.inr ⟨rfl, by decide⟩⟩ ?_
        exact l_X0_body_44 d self hself _ _ _ _ h
theorem c_X0_body : ∀ (d : Nat) (p1 : Int32) (p2 : Int32) (σ : aSt) (o : Int32 × aSt), f_X0_body d p1 p2 σ = some o → AM true (m_X0_body d) [va_rf (some (32)), .int (p1), .int (p2)] σ (some (.int o.1)) o.2
  | 0 => fun p1 p2 σ o h => by cases h
  | d + 1 => fun p1 p2 σ o h => c_X0_body_b d (f_X0_body d) (c_X0_body d) p1 p2 σ o h
