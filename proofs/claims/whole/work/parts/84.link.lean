theorem dX2_queueIn_0 : decode cX2_queueIn 0 = .ok (.aload_n 0, 1) := by decide +kernel
theorem dX2_queueIn_1 : decode cX2_queueIn 1 = .ok (.getfield 24, 3) := by decide +kernel
theorem dX2_queueIn_4 : decode cX2_queueIn 4 = .ok (.bipush 120, 2) := by decide +kernel
theorem dX2_queueIn_6 : decode cX2_queueIn 6 = .ok (.if_icmp .lt 4, 3) := by decide +kernel
theorem dX2_queueIn_9 : decode cX2_queueIn 9 = .ok (.return_, 1) := by decide +kernel
theorem dX2_queueIn_10 : decode cX2_queueIn 10 = .ok (.aload_n 0, 1) := by decide +kernel
theorem dX2_queueIn_11 : decode cX2_queueIn 11 = .ok (.getfield 24, 3) := by decide +kernel
theorem dX2_queueIn_14 : decode cX2_queueIn 14 = .ok (.istore 4, 2) := by decide +kernel
theorem dX2_queueIn_16 : decode cX2_queueIn 16 = .ok (.iload 4, 2) := by decide +kernel
theorem dX2_queueIn_18 : decode cX2_queueIn 18 = .ok (.ifCond .le 55, 3) := by decide +kernel
theorem dX2_queueIn_21 : decode cX2_queueIn 21 = .ok (.aload_n 0, 1) := by decide +kernel
theorem dX2_queueIn_22 : decode cX2_queueIn 22 = .ok (.getfield 42, 3) := by decide +kernel
theorem dX2_queueIn_25 : decode cX2_queueIn 25 = .ok (.iload 4, 2) := by decide +kernel
theorem dX2_queueIn_27 : decode cX2_queueIn 27 = .ok (.iconst 1, 1) := by decide +kernel
theorem dX2_queueIn_28 : decode cX2_queueIn 28 = .ok (.isub, 1) := by decide +kernel
theorem dX2_queueIn_29 : decode cX2_queueIn 29 = .ok (.laload, 1) := by decide +kernel
theorem dX2_queueIn_30 : decode cX2_queueIn 30 = .ok (.lload_n 2, 1) := by decide +kernel
theorem dX2_queueIn_31 : decode cX2_queueIn 31 = .ok (.lcmp, 1) := by decide +kernel
theorem dX2_queueIn_32 : decode cX2_queueIn 32 = .ok (.ifCond .ge 41, 3) := by decide +kernel
theorem dX2_queueIn_35 : decode cX2_queueIn 35 = .ok (.aload_n 0, 1) := by decide +kernel
theorem dX2_queueIn_36 : decode cX2_queueIn 36 = .ok (.getfield 42, 3) := by decide +kernel
theorem dX2_queueIn_39 : decode cX2_queueIn 39 = .ok (.iload 4, 2) := by decide +kernel
theorem dX2_queueIn_41 : decode cX2_queueIn 41 = .ok (.aload_n 0, 1) := by decide +kernel
theorem dX2_queueIn_42 : decode cX2_queueIn 42 = .ok (.getfield 42, 3) := by decide +kernel
theorem dX2_queueIn_45 : decode cX2_queueIn 45 = .ok (.iload 4, 2) := by decide +kernel
theorem dX2_queueIn_47 : decode cX2_queueIn 47 = .ok (.iconst 1, 1) := by decide +kernel
theorem dX2_queueIn_48 : decode cX2_queueIn 48 = .ok (.isub, 1) := by decide +kernel
theorem dX2_queueIn_49 : decode cX2_queueIn 49 = .ok (.laload, 1) := by decide +kernel
theorem dX2_queueIn_50 : decode cX2_queueIn 50 = .ok (.lastore, 1) := by decide +kernel
theorem dX2_queueIn_51 : decode cX2_queueIn 51 = .ok (.aload_n 0, 1) := by decide +kernel
theorem dX2_queueIn_52 : decode cX2_queueIn 52 = .ok (.getfield 20, 3) := by decide +kernel
theorem dX2_queueIn_55 : decode cX2_queueIn 55 = .ok (.iload 4, 2) := by decide +kernel
theorem dX2_queueIn_57 : decode cX2_queueIn 57 = .ok (.aload_n 0, 1) := by decide +kernel
theorem dX2_queueIn_58 : decode cX2_queueIn 58 = .ok (.getfield 20, 3) := by decide +kernel
theorem dX2_queueIn_61 : decode cX2_queueIn 61 = .ok (.iload 4, 2) := by decide +kernel
theorem dX2_queueIn_63 : decode cX2_queueIn 63 = .ok (.iconst 1, 1) := by decide +kernel
theorem dX2_queueIn_64 : decode cX2_queueIn 64 = .ok (.isub, 1) := by decide +kernel
theorem dX2_queueIn_65 : decode cX2_queueIn 65 = .ok (.aaload, 1) := by decide +kernel
theorem dX2_queueIn_66 : decode cX2_queueIn 66 = .ok (.aastore, 1) := by decide +kernel
theorem dX2_queueIn_67 : decode cX2_queueIn 67 = .ok (.iinc 4 (-1), 3) := by decide +kernel
theorem dX2_queueIn_70 : decode cX2_queueIn 70 = .ok (.goto (-54), 3) := by decide +kernel
theorem dX2_queueIn_73 : decode cX2_queueIn 73 = .ok (.aload_n 0, 1) := by decide +kernel
theorem dX2_queueIn_74 : decode cX2_queueIn 74 = .ok (.getfield 42, 3) := by decide +kernel
theorem dX2_queueIn_77 : decode cX2_queueIn 77 = .ok (.iload 4, 2) := by decide +kernel
theorem dX2_queueIn_79 : decode cX2_queueIn 79 = .ok (.lload_n 2, 1) := by decide +kernel
theorem dX2_queueIn_80 : decode cX2_queueIn 80 = .ok (.lastore, 1) := by decide +kernel
theorem dX2_queueIn_81 : decode cX2_queueIn 81 = .ok (.aload_n 0, 1) := by decide +kernel
theorem dX2_queueIn_82 : decode cX2_queueIn 82 = .ok (.getfield 20, 3) := by decide +kernel
theorem dX2_queueIn_85 : decode cX2_queueIn 85 = .ok (.iload 4, 2) := by decide +kernel
theorem dX2_queueIn_87 : decode cX2_queueIn 87 = .ok (.aload_n 1, 1) := by decide +kernel
theorem dX2_queueIn_88 : decode cX2_queueIn 88 = .ok (.aastore, 1) := by decide +kernel
theorem dX2_queueIn_89 : decode cX2_queueIn 89 = .ok (.aload_n 0, 1) := by decide +kernel
theorem dX2_queueIn_90 : decode cX2_queueIn 90 = .ok (.dup, 1) := by decide +kernel
theorem dX2_queueIn_91 : decode cX2_queueIn 91 = .ok (.getfield 24, 3) := by decide +kernel
theorem dX2_queueIn_94 : decode cX2_queueIn 94 = .ok (.iconst 1, 1) := by decide +kernel
theorem dX2_queueIn_95 : decode cX2_queueIn 95 = .ok (.iadd, 1) := by decide +kernel
theorem dX2_queueIn_96 : decode cX2_queueIn 96 = .ok (.putfield 24, 3) := by decide +kernel
theorem dX2_queueIn_99 : decode cX2_queueIn 99 = .ok (.return_, 1) := by decide +kernel
theorem kd_X2_queueIn : aKd m_X2_queueIn 2 := ⟨wd_39_13, wd_2_5, ⟨by decide +kernel, by decide +kernel, by decide +kernel⟩⟩
set_option maxRecDepth 100000 in
set_option maxHeartbeats 4000000 in
theorem l_X2_queueIn_73  (x1 : Nat) (x2 : Int64) (x4 : Int32) (σ : aSt) (o : Unit × aSt) (h : f_X2_queueIn_73  x1 x2 x4 σ = some o) : AW true m_X2_queueIn 73 [(0, va_rf (some (11))), (1, va_rf (some (x1))), (2, Value.long (x2)), (4, Value.int (x4))] [] σ 0 0 none o.2 := by
  unfold f_X2_queueIn_73 at h
  refine w_aload_n 0 ((some (11))) dX2_queueIn_73 rfl rfl ?_
  refine w_get (v := va_rf (some 25)) dX2_queueIn_74 fl_RX2_42 ⟨rfl, Or.inr ⟨rfl, by decide⟩⟩ (aFv_k rfl) ?_
  refine w_iload 3 dX2_queueIn_77 rfl ?_
  refine w_lload_n 2 dX2_queueIn_79 rfl rfl ?_
  replace h := e_grd h; obtain ⟨b2, h⟩ := h
  refine w_lastore dX2_queueIn_80 ⟨rfl, Or.inr ⟨rfl, by decide⟩⟩ b2 ?_
  refine w_aload_n 0 ((some (11))) dX2_queueIn_81 rfl rfl ?_
  refine w_get (v := va_rf (some 19)) dX2_queueIn_82 fl_RX2_20 ⟨rfl, Or.inr ⟨rfl, by decide⟩⟩ (aFv_k rfl) ?_
  refine w_iload 3 dX2_queueIn_85 rfl ?_
  refine w_aload_n 1 ((some (x1))) dX2_queueIn_87 rfl rfl ?_
  replace h := e_grd h; obtain ⟨b3, h⟩ := h
  replace h := e_grd h; obtain ⟨g4, h⟩ := h
  refine w_aastore (ci := 4) (t0 := 0) dX2_queueIn_88 (Or.inl ⟨rfl, rfl⟩) ⟨rfl, Or.inr ⟨rfl, by decide⟩⟩ ⟨g4.1, Or.inl g4.2⟩ b3 ?_
  refine w_aload_n 0 ((some (11))) dX2_queueIn_89 rfl rfl ?_
  refine w_dup dX2_queueIn_90 (aRf_cat _) ?_
  refine w_get dX2_queueIn_91 fl_RX2_24 ⟨rfl, Or.inr ⟨rfl, by decide⟩⟩ (aFv_i rfl) ?_
  refine w_iconst (v := 1) dX2_queueIn_94 (by decide) ?_
  refine w_iadd dX2_queueIn_95 ?_
  refine w_putI dX2_queueIn_96 fl_RX2_24 (Or.inl rfl) rfl ⟨rfl, Or.inr ⟨rfl, by decide⟩⟩ ?_
  obtain rfl := Option.some.inj h
  exact w_vreturn dX2_queueIn_99 rfl (Nat.le_of_ble_eq_true rfl) (Nat.le_of_ble_eq_true rfl)
set_option maxRecDepth 100000 in
set_option maxHeartbeats 4000000 in
theorem l_X2_queueIn_16_b (rec16 : Nat → Int64 → Int32 → aSt → Option (Unit × aSt)) (hrec16 : ∀ (x1 : Nat) (x2 : Int64) (x4 : Int32) (σ : aSt) (o : Unit × aSt), rec16 x1 x2 x4 σ = some o → AW true m_X2_queueIn 16 [(0, va_rf (some (11))), (1, va_rf (some (x1))), (2, Value.long (x2)), (4, Value.int (x4))] [] σ 0 0 none o.2) (x1 : Nat) (x2 : Int64) (x4 : Int32) (σ : aSt) (o : Unit × aSt) (h : f_X2_queueIn_16_b rec16 x1 x2 x4 σ = some o) : AW true m_X2_queueIn 16 [(0, va_rf (some (11))), (1, va_rf (some (x1))), (2, Value.long (x2)), (4, Value.int (x4))] [] σ 0 0 none o.2 := by
  unfold f_X2_queueIn_16_b at h
  refine w_iload 3 dX2_queueIn_16 rfl ?_
  refine w_if_le 73 dX2_queueIn_18 (by decide) (fun c5 => ?_) (fun c5 => ?_)
  · replace h := e_t c5 h
    exact l_X2_queueIn_73 _ _ _ _ _ h
  · replace h := e_f c5 h
    refine w_aload_n 0 ((some (11))) dX2_queueIn_21 rfl rfl ?_
    refine w_get (v := va_rf (some 25)) dX2_queueIn_22 fl_RX2_42 ⟨rfl, Or.inr ⟨rfl, by decide⟩⟩ (aFv_k rfl) ?_
    refine w_iload 3 dX2_queueIn_25 rfl ?_
    refine w_iconst (v := 1) dX2_queueIn_27 (by decide) ?_
    refine w_isub dX2_queueIn_28 ?_
    replace h := e_grd h; obtain ⟨b6, h⟩ := h
    refine w_laload dX2_queueIn_29 ⟨rfl, Or.inr ⟨rfl, by decide⟩⟩ b6 ?_
    refine w_lload_n 2 dX2_queueIn_30 rfl rfl ?_
    refine w_lcmp dX2_queueIn_31 ?_
    refine w_if_ge 73 dX2_queueIn_32 (by decide) (fun c7 => ?_) (fun c7 => ?_)
    · replace h := e_t c7 h
      exact l_X2_queueIn_73 _ _ _ _ _ h
    · replace h := e_f c7 h
      refine w_aload_n 0 ((some (11))) dX2_queueIn_35 rfl rfl ?_
      refine w_get (v := va_rf (some 25)) dX2_queueIn_36 fl_RX2_42 ⟨rfl, Or.inr ⟨rfl, by decide⟩⟩ (aFv_k rfl) ?_
      refine w_iload 3 dX2_queueIn_39 rfl ?_
      refine w_aload_n 0 ((some (11))) dX2_queueIn_41 rfl rfl ?_
      refine w_get (v := va_rf (some 25)) dX2_queueIn_42 fl_RX2_42 ⟨rfl, Or.inr ⟨rfl, by decide⟩⟩ (aFv_k rfl) ?_
      refine w_iload 3 dX2_queueIn_45 rfl ?_
      refine w_iconst (v := 1) dX2_queueIn_47 (by decide) ?_
      refine w_isub dX2_queueIn_48 ?_
      replace h := e_grd h; obtain ⟨b8, h⟩ := h
      refine w_laload dX2_queueIn_49 ⟨rfl, Or.inr ⟨rfl, by decide⟩⟩ b8 ?_
      replace h := e_grd h; obtain ⟨b9, h⟩ := h
      refine w_lastore dX2_queueIn_50 ⟨rfl, Or.inr ⟨rfl, by decide⟩⟩ b9 ?_
      refine w_aload_n 0 ((some (11))) dX2_queueIn_51 rfl rfl ?_
      refine w_get (v := va_rf (some 19)) dX2_queueIn_52 fl_RX2_20 ⟨rfl, Or.inr ⟨rfl, by decide⟩⟩ (aFv_k rfl) ?_
      refine w_iload 3 dX2_queueIn_55 rfl ?_
      refine w_aload_n 0 ((some (11))) dX2_queueIn_57 rfl rfl ?_
      refine w_get (v := va_rf (some 19)) dX2_queueIn_58 fl_RX2_20 ⟨rfl, Or.inr ⟨rfl, by decide⟩⟩ (aFv_k rfl) ?_
      refine w_iload 3 dX2_queueIn_61 rfl ?_
      refine w_iconst (v := 1) dX2_queueIn_63 (by decide) ?_
      refine w_isub dX2_queueIn_64 ?_
      replace h := e_grd h; obtain ⟨b10, h⟩ := h
      refine w_aaloadP dX2_queueIn_65 ⟨rfl, Or.inr ⟨rfl, by decide⟩⟩ b10 ?_
      replace h := e_oS h; obtain ⟨a11, r12, h⟩ := h
      rw [r12]
      replace h := e_grd h; obtain ⟨b13, h⟩ := h
      replace h := e_grd h; obtain ⟨g14, h⟩ := h
      refine w_aastore (ci := 4) (t0 := 0) dX2_queueIn_66 (Or.inl ⟨rfl, rfl⟩) ⟨rfl, Or.inr ⟨rfl, by decide⟩⟩ ⟨g14.1, Or.inl g14.2⟩ b13 ?_
      refine w_iinc (q := 3) (v := x4 + (-1)) dX2_queueIn_67 rfl rfl (by decide) rfl ?_
      refine w_goto 16 dX2_queueIn_70 (by decide) ?_
      refine w_sub [1, 2, 3, 0] rfl ?_
      exact hrec16 _ _ _ _ _ h
theorem l_X2_queueIn_16  : ∀ (n : Nat) (x1 : Nat) (x2 : Int64) (x4 : Int32) (σ : aSt) (o : Unit × aSt), f_X2_queueIn_16  n x1 x2 x4 σ = some o → AW true m_X2_queueIn 16 [(0, va_rf (some (11))), (1, va_rf (some (x1))), (2, Value.long (x2)), (4, Value.int (x4))] [] σ 0 0 none o.2
  | 0 => fun x1 x2 x4 σ o h => by cases h
  | n + 1 => fun x1 x2 x4 σ o h => l_X2_queueIn_16_b (f_X2_queueIn_16  n) (l_X2_queueIn_16  n) x1 x2 x4 σ o h
set_option maxRecDepth 100000 in
set_option maxHeartbeats 4000000 in
theorem c_X2_queueIn (p1 : Nat) (p2 : Int64) (σ : aSt) (o : Unit × aSt) (h : f_X2_queueIn p1 p2 σ = some o) : AM true m_X2_queueIn [va_rf (some (11)), va_rf (some (p1)), .long (p2)] σ none o.2 := by
  refine AM_of2 (lv := [(0, va_rf (some (11))), (1, va_rf (some (p1))), (2, Value.long (p2))]) (by decide +kernel) rfl (Nat.le_of_ble_eq_true rfl) ?_
  unfold f_X2_queueIn at h
  refine w_aload_n 0 ((some (11))) dX2_queueIn_0 rfl rfl ?_
  refine w_get dX2_queueIn_1 fl_RX2_24 ⟨rfl, Or.inr ⟨rfl, by decide⟩⟩ (aFv_i rfl) ?_
  refine w_bipush (v := 120) dX2_queueIn_4 (by decide) ?_
  refine w_icmp_lt 10 dX2_queueIn_6 (by decide) (fun c1 => ?_) (fun c1 => ?_)
  · replace h := e_t c1 h
    refine w_aload_n 0 ((some (11))) dX2_queueIn_10 rfl rfl ?_
    refine w_get dX2_queueIn_11 fl_RX2_24 ⟨rfl, Or.inr ⟨rfl, by decide⟩⟩ (aFv_i rfl) ?_
    refine w_istore dX2_queueIn_14 (by decide) rfl ?_
    refine w_sub [1, 2, 3, 0] rfl ?_
    exact l_X2_queueIn_16 aN _ _ _ _ _ h
  · replace h := e_f c1 h
    obtain rfl := Option.some.inj h
    exact w_vreturn dX2_queueIn_9 rfl (Nat.le_of_ble_eq_true rfl) (Nat.le_of_ble_eq_true rfl)
theorem dX2_lineUp_0 : decode cX2_lineUp 0 = .ok (.aload_n 0, 1) := by decide +kernel
theorem dX2_lineUp_1 : decode cX2_lineUp 1 = .ok (.iconst 0, 1) := by decide +kernel
theorem dX2_lineUp_2 : decode cX2_lineUp 2 = .ok (.putfield 24, 3) := by decide +kernel
theorem dX2_lineUp_5 : decode cX2_lineUp 5 = .ok (.iconst 0, 1) := by decide +kernel
theorem dX2_lineUp_6 : decode cX2_lineUp 6 = .ok (.istore_n 1, 1) := by decide +kernel
theorem dX2_lineUp_7 : decode cX2_lineUp 7 = .ok (.iload_n 1, 1) := by decide +kernel
theorem dX2_lineUp_8 : decode cX2_lineUp 8 = .ok (.aload_n 0, 1) := by decide +kernel
theorem dX2_lineUp_9 : decode cX2_lineUp 9 = .ok (.getfield 46, 3) := by decide +kernel
theorem dX2_lineUp_12 : decode cX2_lineUp 12 = .ok (.getfield 112, 3) := by decide +kernel
theorem dX2_lineUp_15 : decode cX2_lineUp 15 = .ok (.if_icmp .ge 59, 3) := by decide +kernel
theorem dX2_lineUp_18 : decode cX2_lineUp 18 = .ok (.aload_n 0, 1) := by decide +kernel
theorem dX2_lineUp_19 : decode cX2_lineUp 19 = .ok (.getfield 46, 3) := by decide +kernel
theorem dX2_lineUp_22 : decode cX2_lineUp 22 = .ok (.iload_n 1, 1) := by decide +kernel
theorem dX2_lineUp_23 : decode cX2_lineUp 23 = .ok (.invokevirtual 117, 3) := by decide +kernel
theorem dX2_lineUp_26 : decode cX2_lineUp 26 = .ok (.astore_n 2, 1) := by decide +kernel
theorem dX2_lineUp_27 : decode cX2_lineUp 27 = .ok (.aload_n 2, 1) := by decide +kernel
theorem dX2_lineUp_28 : decode cX2_lineUp 28 = .ok (.ifnull 40, 3) := by decide +kernel
theorem dX2_lineUp_31 : decode cX2_lineUp 31 = .ok (.aload_n 2, 1) := by decide +kernel
theorem dX2_lineUp_32 : decode cX2_lineUp 32 = .ok (.getfield 109, 3) := by decide +kernel
theorem dX2_lineUp_35 : decode cX2_lineUp 35 = .ok (.ldc 121, 2) := by decide +kernel
theorem dX2_lineUp_37 : decode cX2_lineUp 37 = .ok (.if_icmp .ne 31, 3) := by decide +kernel
theorem dX2_lineUp_40 : decode cX2_lineUp 40 = .ok (.aload_n 0, 1) := by decide +kernel
theorem dX2_lineUp_41 : decode cX2_lineUp 41 = .ok (.aload_n 2, 1) := by decide +kernel
theorem dX2_lineUp_42 : decode cX2_lineUp 42 = .ok (.iconst 0, 1) := by decide +kernel
theorem dX2_lineUp_43 : decode cX2_lineUp 43 = .ok (.invokevirtual 96, 3) := by decide +kernel
theorem dX2_lineUp_46 : decode cX2_lineUp 46 = .ok (.iconst 1, 1) := by decide +kernel
theorem dX2_lineUp_47 : decode cX2_lineUp 47 = .ok (.if_icmp .ne 21, 3) := by decide +kernel
theorem dX2_lineUp_50 : decode cX2_lineUp 50 = .ok (.aload_n 0, 1) := by decide +kernel
theorem dX2_lineUp_51 : decode cX2_lineUp 51 = .ok (.aload_n 2, 1) := by decide +kernel
theorem dX2_lineUp_52 : decode cX2_lineUp 52 = .ok (.aload_n 2, 1) := by decide +kernel
theorem dX2_lineUp_53 : decode cX2_lineUp 53 = .ok (.getfield 122, 3) := by decide +kernel
theorem dX2_lineUp_56 : decode cX2_lineUp 56 = .ok (.i2l, 1) := by decide +kernel
theorem dX2_lineUp_57 : decode cX2_lineUp 57 = .ok (.aload_n 0, 1) := by decide +kernel
theorem dX2_lineUp_58 : decode cX2_lineUp 58 = .ok (.aload_n 2, 1) := by decide +kernel
theorem dX2_lineUp_59 : decode cX2_lineUp 59 = .ok (.iconst 0, 1) := by decide +kernel
theorem dX2_lineUp_60 : decode cX2_lineUp 60 = .ok (.invokevirtual 125, 3) := by decide +kernel
theorem dX2_lineUp_63 : decode cX2_lineUp 63 = .ok (.i2l, 1) := by decide +kernel
theorem dX2_lineUp_64 : decode cX2_lineUp 64 = .ok (.lmul, 1) := by decide +kernel
theorem dX2_lineUp_65 : decode cX2_lineUp 65 = .ok (.invokevirtual 128, 3) := by decide +kernel
theorem dX2_lineUp_68 : decode cX2_lineUp 68 = .ok (.iinc 1 1, 3) := by decide +kernel
theorem dX2_lineUp_71 : decode cX2_lineUp 71 = .ok (.goto (-64), 3) := by decide +kernel
theorem dX2_lineUp_74 : decode cX2_lineUp 74 = .ok (.return_, 1) := by decide +kernel
theorem kd_X2_lineUp : aKd m_X2_lineUp 0 := ⟨wd_39_5, wd_2_5, ⟨by decide +kernel, by decide +kernel, by decide +kernel⟩⟩
set_option maxRecDepth 100000 in
set_option maxHeartbeats 4000000 in
theorem l_X2_lineUp_68 (rec7 : Int32 → aSt → Option (Unit × aSt)) (hrec7 : ∀ (x1 : Int32) (σ : aSt) (o : Unit × aSt), rec7 x1 σ = some o → AW true m_X2_lineUp 7 [(0, va_rf (some (11))), (1, Value.int (x1))] [] σ 0 0 none o.2) (x1 : Int32) (σ : aSt) (o : Unit × aSt) (h : f_X2_lineUp_68 rec7 x1 σ = some o) : AW true m_X2_lineUp 68 [(0, va_rf (some (11))), (1, Value.int (x1))] [] σ 0 0 none o.2 := by
  unfold f_X2_lineUp_68 at h
  refine w_iinc (q := 1) (v := x1 + 1) dX2_lineUp_68 rfl rfl (by decide) rfl ?_
  refine w_goto 7 dX2_lineUp_71 (by decide) ?_
  refine w_sub [1, 0] rfl ?_
  exact hrec7 _ _ _ h
set_option maxRecDepth 100000 in
set_option maxHeartbeats 4000000 in
theorem l_X2_lineUp_7_b (rec7 : Int32 → aSt → Option (Unit × aSt)) (hrec7 : ∀ (x1 : Int32) (σ : aSt) (o : Unit × aSt), rec7 x1 σ = some o → AW true m_X2_lineUp 7 [(0, va_rf (some (11))), (1, Value.int (x1))] [] σ 0 0 none o.2) (x1 : Int32) (σ : aSt) (o : Unit × aSt) (h : f_X2_lineUp_7_b rec7 x1 σ = some o) : AW true m_X2_lineUp 7 [(0, va_rf (some (11))), (1, Value.int (x1))] [] σ 0 0 none o.2 := by
  unfold f_X2_lineUp_7_b at h
  refine w_iload_n 1 dX2_lineUp_7 rfl rfl ?_
  refine w_aload_n 0 ((some (11))) dX2_lineUp_8 rfl rfl ?_
  refine w_get (v := va_rf (some 2)) dX2_lineUp_9 fl_RX2_46 ⟨rfl, Or.inr ⟨rfl, by decide⟩⟩ (aFv_k rfl) ?_
  refine w_get dX2_lineUp_12 fl_RX2_112 ⟨rfl, Or.inr ⟨rfl, by decide⟩⟩ (aFv_i rfl) ?_
  refine w_icmp_ge 74 dX2_lineUp_15 (by decide) (fun c1 => ?_) (fun c1 => ?_)
  · replace h := e_t c1 h
    obtain rfl := Option.some.inj h
    exact w_vreturn dX2_lineUp_74 rfl (Nat.le_of_ble_eq_true rfl) (Nat.le_of_ble_eq_true rfl)
  · replace h := e_f c1 h
    refine w_aload_n 0 ((some (11))) dX2_lineUp_18 rfl rfl ?_
    refine w_get (v := va_rf (some 2)) dX2_lineUp_19 fl_RX2_46 ⟨rfl, Or.inr ⟨rfl, by decide⟩⟩ (aFv_k rfl) ?_
    refine w_iload_n 1 dX2_lineUp_22 rfl rfl ?_
    replace h := e_bind h; obtain ⟨q2, e3, h⟩ := h
    refine w_callV1 (M2 := m_X3_inOrder) (av := [.int (x1)]) (ci := 3) (c_X3_inOrder _ _ _ e3) dX2_lineUp_23 kd_X3_inOrder wd_37_23 wd_17_10 wd_17_11 rfl rfl ⟨rfl, Or.inr ⟨rfl, by decide⟩⟩ rfl ⟨Nat.le_of_ble_eq_true rfl, Nat.le_of_ble_eq_true rfl, Nat.le_of_ble_eq_true rfl, Nat.le_of_ble_eq_true rfl⟩ (Nat.le_of_ble_eq_true rfl) ?_
    refine w_astore_n dX2_lineUp_26 rfl (by decide) rfl ?_
    refine w_aload_n 0 (q2.1) dX2_lineUp_27 rfl rfl ?_
    replace h := e_oC h; rcases h with ⟨r15, h⟩ | ⟨a4, r15, h⟩
    · rw [r15]
      refine w_ifnull0 68 dX2_lineUp_28 (by decide) ?_
      refine w_sub [1, 2] rfl ?_
      exact l_X2_lineUp_68 rec7 hrec7 _ _ _ h
    · rw [r15]
      refine w_ifnull1 dX2_lineUp_28 ?_
      refine w_aload_n 0 ((some (a4))) dX2_lineUp_31 rfl rfl ?_
      replace h := e_grd h; obtain ⟨g5, h⟩ := h
      refine w_get dX2_lineUp_32 fl_RX2_109 ⟨g5.1, Or.inl g5.2⟩ (aFv_i rfl) ?_
      refine w_ldc (v := (-1000000)) dX2_lineUp_35 wd_39_7 ?_
      refine w_icmp_ne 68 dX2_lineUp_37 (by decide) (fun c6 => ?_) (fun c6 => ?_)
      · replace h := e_f c6 h
        refine w_sub [1, 2] rfl ?_
        exact l_X2_lineUp_68 rec7 hrec7 _ _ _ h
      · replace h := e_t c6 h
        refine w_aload_n 1 ((some (11))) dX2_lineUp_40 rfl rfl ?_
        refine w_aload_n 0 ((some (a4))) dX2_lineUp_41 rfl rfl ?_
        refine w_iconst (v := 0) dX2_lineUp_42 (by decide) ?_
        replace h := e_bind h; obtain ⟨q7, e8, h⟩ := h
        refine w_callV1 (M2 := m_X2_actOf) (av := [va_rf (some (a4)), .int (0)]) (ci := 2) (c_X2_actOf _ _ _ _ e8) dX2_lineUp_43 kd_X2_actOf wd_35_10 wd_34_18 wd_34_19 rfl rfl ⟨rfl, Or.inr ⟨rfl, by decide⟩⟩ rfl ⟨Nat.le_of_ble_eq_true rfl, Nat.le_of_ble_eq_true rfl, Nat.le_of_ble_eq_true rfl, Nat.le_of_ble_eq_true rfl⟩ (Nat.le_of_ble_eq_true rfl) ?_
        refine w_iconst (v := 1) dX2_lineUp_46 (by decide) ?_
        refine w_icmp_ne 68 dX2_lineUp_47 (by decide) (fun c9 => ?_) (fun c9 => ?_)
        · replace h := e_f c9 h
          refine w_sub [1, 2] rfl ?_
          exact l_X2_lineUp_68 rec7 hrec7 _ _ _ h
        · replace h := e_t c9 h
          refine w_aload_n 1 ((some (11))) dX2_lineUp_50 rfl rfl ?_
          refine w_aload_n 0 ((some (a4))) dX2_lineUp_51 rfl rfl ?_
          refine w_aload_n 0 ((some (a4))) dX2_lineUp_52 rfl rfl ?_
          replace h := e_grd h; obtain ⟨g10, h⟩ := h
          refine w_get dX2_lineUp_53 fl_RX2_122 ⟨g10.1, Or.inl g10.2⟩ (aFv_i rfl) ?_
          refine w_i2l dX2_lineUp_56 ?_
          refine w_aload_n 1 ((some (11))) dX2_lineUp_57 rfl rfl ?_
          refine w_aload_n 0 ((some (a4))) dX2_lineUp_58 rfl rfl ?_
          refine w_iconst (v := 0) dX2_lineUp_59 (by decide) ?_
          replace h := e_bind h; obtain ⟨q11, e12, h⟩ := h
          refine w_callV1 (M2 := m_X2_scoreOf) (av := [va_rf (some (a4)), .int (0)]) (ci := 2) (c_X2_scoreOf _ _ _ _ e12) dX2_lineUp_60 kd_X2_scoreOf wd_39_9 wd_33_20 wd_33_21 rfl rfl ⟨rfl, Or.inr ⟨rfl, by decide⟩⟩ rfl ⟨Nat.le_of_ble_eq_true rfl, Nat.le_of_ble_eq_true rfl, Nat.le_of_ble_eq_true rfl, Nat.le_of_ble_eq_true rfl⟩ (Nat.le_of_ble_eq_true rfl) ?_
          refine w_i2l dX2_lineUp_63 ?_
          refine w_lmul dX2_lineUp_64 ?_
          replace h := e_bind h; obtain ⟨q13, e14, h⟩ := h
          refine w_callV0 (M2 := m_X2_queueIn) (av := [va_rf (some (a4)), .long (((gI q7.2 a4 4).toInt64) * q11.1.toInt64)]) (ci := 2) (c_X2_queueIn _ _ _ _ e14) dX2_lineUp_65 kd_X2_queueIn wd_39_10 wd_39_11 wd_39_12 rfl rfl ⟨rfl, Or.inr ⟨rfl, by decide⟩⟩ rfl ⟨Nat.le_of_ble_eq_true rfl, Nat.le_of_ble_eq_true rfl, Nat.le_of_ble_eq_true rfl, Nat.le_of_ble_eq_true rfl⟩ (Nat.le_of_ble_eq_true rfl) ?_
          refine w_sub [1, 2] rfl ?_
          exact l_X2_lineUp_68 rec7 hrec7 _ _ _ h
theorem l_X2_lineUp_7  : ∀ (n : Nat) (x1 : Int32) (σ : aSt) (o : Unit × aSt), f_X2_lineUp_7  n x1 σ = some o → AW true m_X2_lineUp 7 [(0, va_rf (some (11))), (1, Value.int (x1))] [] σ 0 0 none o.2
  | 0 => fun x1 σ o h => by cases h
  | n + 1 => fun x1 σ o h => l_X2_lineUp_7_b (f_X2_lineUp_7  n) (l_X2_lineUp_7  n) x1 σ o h
set_option maxRecDepth 100000 in
set_option maxHeartbeats 4000000 in
theorem c_X2_lineUp  (σ : aSt) (o : Unit × aSt) (h : f_X2_lineUp  σ = some o) : AM true m_X2_lineUp [va_rf (some (11))] σ none o.2 := by
  refine AM_of2 (lv := [(0, va_rf (some (11)))]) (by decide +kernel) rfl (Nat.le_of_ble_eq_true rfl) ?_
  unfold f_X2_lineUp at h
  refine w_aload_n 0 ((some (11))) dX2_lineUp_0 rfl rfl ?_
  refine w_iconst (v := 0) dX2_lineUp_1 (by decide) ?_
  refine w_putI dX2_lineUp_2 fl_RX2_24 (Or.inl rfl) rfl ⟨rfl, Or.inr ⟨rfl, by decide⟩⟩ ?_
  refine w_iconst (v := 0) dX2_lineUp_5 (by decide) ?_
  refine w_istore_n dX2_lineUp_6 rfl (by decide) rfl ?_
  refine w_sub [1, 0] rfl ?_
  exact l_X2_lineUp_7 aN _ _ _ h
theorem dX11_queue_0 : decode cX11_queue 0 = .ok (.aload_n 0, 1) := by decide +kernel
theorem dX11_queue_1 : decode cX11_queue 1 = .ok (.getfield 43, 3) := by decide +kernel
theorem dX11_queue_4 : decode cX11_queue 4 = .ok (.invokevirtual 249, 3) := by decide +kernel
theorem dX11_queue_7 : decode cX11_queue 7 = .ok (.iload_n 1, 1) := by decide +kernel
theorem dX11_queue_8 : decode cX11_queue 8 = .ok (.iconst 0, 1) := by decide +kernel
theorem dX11_queue_9 : decode cX11_queue 9 = .ok (.aload_n 0, 1) := by decide +kernel
theorem dX11_queue_10 : decode cX11_queue 10 = .ok (.getfield 43, 3) := by decide +kernel
theorem dX11_queue_13 : decode cX11_queue 13 = .ok (.getfield 252, 3) := by decide +kernel
theorem dX11_queue_16 : decode cX11_queue 16 = .ok (.iconst 1, 1) := by decide +kernel
theorem dX11_queue_17 : decode cX11_queue 17 = .ok (.isub, 1) := by decide +kernel
theorem dX11_queue_18 : decode cX11_queue 18 = .ok (.invokestatic 89, 3) := by decide +kernel
theorem dX11_queue_21 : decode cX11_queue 21 = .ok (.ifCond .ne 6, 3) := by decide +kernel
theorem dX11_queue_24 : decode cX11_queue 24 = .ok (.ldc 171, 2) := by decide +kernel
theorem dX11_queue_26 : decode cX11_queue 26 = .ok (.ireturn, 1) := by decide +kernel
theorem dX11_queue_27 : decode cX11_queue 27 = .ok (.aload_n 0, 1) := by decide +kernel
theorem dX11_queue_28 : decode cX11_queue 28 = .ok (.getfield 43, 3) := by decide +kernel
theorem dX11_queue_31 : decode cX11_queue 31 = .ok (.getfield 255, 3) := by decide +kernel
theorem dX11_queue_34 : decode cX11_queue 34 = .ok (.iload_n 1, 1) := by decide +kernel
theorem dX11_queue_35 : decode cX11_queue 35 = .ok (.aaload, 1) := by decide +kernel
theorem dX11_queue_36 : decode cX11_queue 36 = .ok (.getfield 172, 3) := by decide +kernel
theorem dX11_queue_39 : decode cX11_queue 39 = .ok (.ireturn, 1) := by decide +kernel
theorem kd_X11_queue : aKd m_X11_queue 1 := ⟨wd_38_23, wd_1_2, ⟨by decide +kernel, by decide +kernel, by decide +kernel⟩⟩
set_option maxRecDepth 100000 in
set_option maxHeartbeats 4000000 in
theorem c_X11_queue (p1 : Int32) (σ : aSt) (o : Int32 × aSt) (h : f_X11_queue p1 σ = some o) : AM true m_X11_queue [va_rf (some (0)), .int (p1)] σ (some (.int o.1)) o.2 := by
  refine AM_of2 (lv := [(0, va_rf (some (0))), (1, Value.int (p1))]) (by decide +kernel) rfl (Nat.le_of_ble_eq_true rfl) ?_
  unfold f_X11_queue at h
  refine w_aload_n 0 ((some (0))) dX11_queue_0 rfl rfl ?_
  refine w_get (v := va_rf (some 11)) dX11_queue_1 fl_RX11_43 ⟨rfl, Or.inr ⟨rfl, by decide⟩⟩ (aFv_k rfl) ?_
  replace h := e_bind h; obtain ⟨q1, e2, h⟩ := h
  refine w_callV0 (M2 := m_X2_lineUp) (av := []) (ci := 2) (c_X2_lineUp  _ _ e2) dX11_queue_4 kd_X2_lineUp wd_39_2 wd_39_3 wd_39_4 rfl rfl ⟨rfl, Or.inr ⟨rfl, by decide⟩⟩ rfl ⟨Nat.le_of_ble_eq_true rfl, Nat.le_of_ble_eq_true rfl, Nat.le_of_ble_eq_true rfl, Nat.le_of_ble_eq_true rfl⟩ (Nat.le_of_ble_eq_true rfl) ?_
  refine w_iload_n 1 dX11_queue_7 rfl rfl ?_
  refine w_iconst (v := 0) dX11_queue_8 (by decide) ?_
  refine w_aload_n 0 ((some (0))) dX11_queue_9 rfl rfl ?_
  refine w_get (v := va_rf (some 11)) dX11_queue_10 fl_RX11_43 ⟨rfl, Or.inr ⟨rfl, by decide⟩⟩ (aFv_k rfl) ?_
  refine w_get dX11_queue_13 fl_RX11_252 ⟨rfl, Or.inr ⟨rfl, by decide⟩⟩ (aFv_i rfl) ?_
  refine w_iconst (v := 1) dX11_queue_16 (by decide) ?_
  refine w_isub dX11_queue_17 ?_
  replace h := e_bind h; obtain ⟨q3, e4, h⟩ := h
  refine w_callS1 (M2 := m_X11_within) (av := [.int (p1), .int (0), .int ((gI q1.2 11 2) - 1)]) (c_X11_within _ _ _ _ _ e4) dX11_queue_18 kd_X11_within wd_9_22 wd_9_23 rfl rfl ⟨Nat.le_of_ble_eq_true rfl, Nat.le_of_ble_eq_true rfl, Nat.le_of_ble_eq_true rfl, Nat.le_of_ble_eq_true rfl⟩ (Nat.le_of_ble_eq_true rfl) ?_
  refine w_if_ne 27 dX11_queue_21 (by decide) (fun c5 => ?_) (fun c5 => ?_)
  · replace h := e_f c5 h
    refine w_aload_n 0 ((some (0))) dX11_queue_27 rfl rfl ?_
    refine w_get (v := va_rf (some 11)) dX11_queue_28 fl_RX11_43 ⟨rfl, Or.inr ⟨rfl, by decide⟩⟩ (aFv_k rfl) ?_
    refine w_get (v := va_rf (some 19)) dX11_queue_31 fl_RX11_255 ⟨rfl, Or.inr ⟨rfl, by decide⟩⟩ (aFv_k rfl) ?_
    refine w_iload_n 1 dX11_queue_34 rfl rfl ?_
    replace h := e_grd h; obtain ⟨b6, h⟩ := h
    refine w_aaloadP dX11_queue_35 ⟨rfl, Or.inr ⟨rfl, by decide⟩⟩ b6 ?_
    replace h := e_oS h; obtain ⟨a7, r8, h⟩ := h
    rw [r8]
    replace h := e_grd h; obtain ⟨g9, h⟩ := h
    refine w_get dX11_queue_36 fl_RX11_172 ⟨g9.1, Or.inl g9.2⟩ (aFv_i rfl) ?_
    obtain rfl := Option.some.inj h
    exact w_ireturn dX11_queue_39 rfl (Nat.le_of_ble_eq_true rfl) (Nat.le_of_ble_eq_true rfl)
  · replace h := e_t c5 h
    refine w_ldc (v := (-1000000)) dX11_queue_24 wd_17_7 ?_
    obtain rfl := Option.some.inj h
    exact w_ireturn dX11_queue_26 rfl (Nat.le_of_ble_eq_true rfl) (Nat.le_of_ble_eq_true rfl)
theorem dX11_cost_0 : decode cX11_cost 0 = .ok (.iload_n 1, 1) := by decide +kernel
theorem dX11_cost_1 : decode cX11_cost 1 = .ok (.iconst 0, 1) := by decide +kernel
theorem dX11_cost_2 : decode cX11_cost 2 = .ok (.iconst 1, 1) := by decide +kernel
theorem dX11_cost_3 : decode cX11_cost 3 = .ok (.invokestatic 89, 3) := by decide +kernel
theorem dX11_cost_6 : decode cX11_cost 6 = .ok (.ifCond .eq 13, 3) := by decide +kernel
theorem dX11_cost_9 : decode cX11_cost 9 = .ok (.iload_n 2, 1) := by decide +kernel
theorem dX11_cost_10 : decode cX11_cost 10 = .ok (.iconst 0, 1) := by decide +kernel
theorem dX11_cost_11 : decode cX11_cost 11 = .ok (.ldc 238, 2) := by decide +kernel
theorem dX11_cost_13 : decode cX11_cost 13 = .ok (.invokestatic 89, 3) := by decide +kernel
theorem dX11_cost_16 : decode cX11_cost 16 = .ok (.ifCond .ne 6, 3) := by decide +kernel
theorem dX11_cost_19 : decode cX11_cost 19 = .ok (.ldc 93, 2) := by decide +kernel
theorem dX11_cost_21 : decode cX11_cost 21 = .ok (.ireturn, 1) := by decide +kernel
theorem dX11_cost_22 : decode cX11_cost 22 = .ok (.iload_n 1, 1) := by decide +kernel
theorem dX11_cost_23 : decode cX11_cost 23 = .ok (.ifCond .ne 13, 3) := by decide +kernel
theorem dX11_cost_26 : decode cX11_cost 26 = .ok (.aload_n 0, 1) := by decide +kernel
theorem dX11_cost_27 : decode cX11_cost 27 = .ok (.getfield 52, 3) := by decide +kernel
theorem dX11_cost_30 : decode cX11_cost 30 = .ok (.getfield 259, 3) := by decide +kernel
theorem dX11_cost_33 : decode cX11_cost 33 = .ok (.goto 10, 3) := by decide +kernel
theorem dX11_cost_36 : decode cX11_cost 36 = .ok (.aload_n 0, 1) := by decide +kernel
theorem dX11_cost_37 : decode cX11_cost 37 = .ok (.getfield 52, 3) := by decide +kernel
theorem dX11_cost_40 : decode cX11_cost 40 = .ok (.getfield 262, 3) := by decide +kernel
theorem dX11_cost_43 : decode cX11_cost 43 = .ok (.istore_n 3, 1) := by decide +kernel
theorem dX11_cost_44 : decode cX11_cost 44 = .ok (.iload_n 1, 1) := by decide +kernel
theorem dX11_cost_45 : decode cX11_cost 45 = .ok (.ifCond .ne 14, 3) := by decide +kernel
theorem dX11_cost_48 : decode cX11_cost 48 = .ok (.aload_n 0, 1) := by decide +kernel
theorem dX11_cost_49 : decode cX11_cost 49 = .ok (.getfield 52, 3) := by decide +kernel
theorem dX11_cost_52 : decode cX11_cost 52 = .ok (.iload_n 2, 1) := by decide +kernel
theorem dX11_cost_53 : decode cX11_cost 53 = .ok (.putfield 259, 3) := by decide +kernel
theorem dX11_cost_56 : decode cX11_cost 56 = .ok (.goto 11, 3) := by decide +kernel
theorem dX11_cost_59 : decode cX11_cost 59 = .ok (.aload_n 0, 1) := by decide +kernel
theorem dX11_cost_60 : decode cX11_cost 60 = .ok (.getfield 52, 3) := by decide +kernel
theorem dX11_cost_63 : decode cX11_cost 63 = .ok (.iload_n 2, 1) := by decide +kernel
theorem dX11_cost_64 : decode cX11_cost 64 = .ok (.putfield 262, 3) := by decide +kernel
theorem dX11_cost_67 : decode cX11_cost 67 = .ok (.iload_n 3, 1) := by decide +kernel
theorem dX11_cost_68 : decode cX11_cost 68 = .ok (.ireturn, 1) := by decide +kernel
theorem kd_X11_cost : aKd m_X11_cost 2 := ⟨wd_40_2, wd_1_2, ⟨by decide +kernel, by decide +kernel, by decide +kernel⟩⟩
set_option maxRecDepth 100000 in
set_option maxHeartbeats 4000000 in
theorem l_X11_cost_19   (σ : aSt) (o : Int32 × aSt) (h : f_X11_cost_19   σ = some o) : AW true m_X11_cost 19 [] [] σ 0 0 (some (.int o.1)) o.2 := by
  unfold f_X11_cost_19 at h
  refine w_ldc (v := (-1000001)) dX11_cost_19 wd_9_18 ?_
  obtain rfl := Option.some.inj h
  exact w_ireturn dX11_cost_21 rfl (Nat.le_of_ble_eq_true rfl) (Nat.le_of_ble_eq_true rfl)
set_option maxRecDepth 100000 in
set_option maxHeartbeats 4000000 in
theorem l_X11_cost_67  (x3 : Int32) (σ : aSt) (o : Int32 × aSt) (h : f_X11_cost_67  x3 σ = some o) : AW true m_X11_cost 67 [(3, Value.int (x3))] [] σ 0 0 (some (.int o.1)) o.2 := by
  unfold f_X11_cost_67 at h
  refine w_iload_n 0 dX11_cost_67 rfl rfl ?_
  obtain rfl := Option.some.inj h
  exact w_ireturn dX11_cost_68 rfl (Nat.le_of_ble_eq_true rfl) (Nat.le_of_ble_eq_true rfl)
set_option maxRecDepth 100000 in
set_option maxHeartbeats 4000000 in
theorem l_X11_cost_43  (x1 : Int32) (x2 : Int32) (t0 : Int32) (σ : aSt) (o : Int32 × aSt) (h : f_X11_cost_43  x1 x2 t0 σ = some o) : AW true m_X11_cost 43 [(0, va_rf (some (0))), (1, Value.int (x1)), (2, Value.int (x2))] [.int (t0)] σ 0 0 (some (.int o.1)) o.2 := by
  unfold f_X11_cost_43 at h
  refine w_istore_n dX11_cost_43 rfl (by decide) rfl ?_
  refine w_iload_n 2 dX11_cost_44 rfl rfl ?_
  refine w_if_ne 59 dX11_cost_45 (by decide) (fun c8 => ?_) (fun c8 => ?_)
  · replace h := e_f c8 h
    refine w_aload_n 1 ((some (0))) dX11_cost_59 rfl rfl ?_
    refine w_get (v := va_rf (some 26)) dX11_cost_60 fl_RX11_52 ⟨rfl, Or.inr ⟨rfl, by decide⟩⟩ (aFv_k rfl) ?_
    refine w_iload_n 3 dX11_cost_63 rfl rfl ?_
    refine w_putI dX11_cost_64 fl_RX11_262 (Or.inl rfl) rfl ⟨rfl, Or.inr ⟨rfl, by decide⟩⟩ ?_
    refine w_sub [0] rfl ?_
    exact l_X11_cost_67 _ _ _ h
  · replace h := e_t c8 h
    refine w_aload_n 1 ((some (0))) dX11_cost_48 rfl rfl ?_
    refine w_get (v := va_rf (some 26)) dX11_cost_49 fl_RX11_52 ⟨rfl, Or.inr ⟨rfl, by decide⟩⟩ (aFv_k rfl) ?_
    refine w_iload_n 3 dX11_cost_52 rfl rfl ?_
    refine w_putI dX11_cost_53 fl_RX11_259 (Or.inl rfl) rfl ⟨rfl, Or.inr ⟨rfl, by decide⟩⟩ ?_
    refine w_goto 67 dX11_cost_56 (by decide) ?_
    refine w_sub [0] rfl ?_
    exact l_X11_cost_67 _ _ _ h
set_option maxRecDepth 100000 in
set_option maxHeartbeats 4000000 in
theorem c_X11_cost (p1 : Int32) (p2 : Int32) (σ : aSt) (o : Int32 × aSt) (h : f_X11_cost p1 p2 σ = some o) : AM true m_X11_cost [va_rf (some (0)), .int (p1), .int (p2)] σ (some (.int o.1)) o.2 := by
  refine AM_of2 (lv := [(0, va_rf (some (0))), (1, Value.int (p1)), (2, Value.int (p2))]) (by decide +kernel) rfl (Nat.le_of_ble_eq_true rfl) ?_
  unfold f_X11_cost at h
  refine w_iload_n 1 dX11_cost_0 rfl rfl ?_
  refine w_iconst (v := 0) dX11_cost_1 (by decide) ?_
  refine w_iconst (v := 1) dX11_cost_2 (by decide) ?_
  replace h := e_bind h; obtain ⟨q1, e2, h⟩ := h
  refine w_callS1 (M2 := m_X11_within) (av := [.int (p1), .int (0), .int (1)]) (c_X11_within _ _ _ _ _ e2) dX11_cost_3 kd_X11_within wd_9_22 wd_9_23 rfl rfl ⟨Nat.le_of_ble_eq_true rfl, Nat.le_of_ble_eq_true rfl, Nat.le_of_ble_eq_true rfl, Nat.le_of_ble_eq_true rfl⟩ (Nat.le_of_ble_eq_true rfl) ?_
  refine w_if_eq 19 dX11_cost_6 (by decide) (fun c3 => ?_) (fun c3 => ?_)
  · replace h := e_t c3 h
    refine w_sub [] rfl ?_
    exact l_X11_cost_19 _ _ h
  · replace h := e_f c3 h
    refine w_iload_n 2 dX11_cost_9 rfl rfl ?_
    refine w_iconst (v := 0) dX11_cost_10 (by decide) ?_
    refine w_ldc (v := 100000) dX11_cost_11 wd_13_12 ?_
    replace h := e_bind h; obtain ⟨q4, e5, h⟩ := h
    refine w_callS1 (M2 := m_X11_within) (av := [.int (p2), .int (0), .int (100000)]) (c_X11_within _ _ _ _ _ e5) dX11_cost_13 kd_X11_within wd_9_22 wd_9_23 rfl rfl ⟨Nat.le_of_ble_eq_true rfl, Nat.le_of_ble_eq_true rfl, Nat.le_of_ble_eq_true rfl, Nat.le_of_ble_eq_true rfl⟩ (Nat.le_of_ble_eq_true rfl) ?_
    refine w_if_ne 22 dX11_cost_16 (by decide) (fun c6 => ?_) (fun c6 => ?_)
    · replace h := e_f c6 h
      refine w_iload_n 1 dX11_cost_22 rfl rfl ?_
      refine w_if_ne 36 dX11_cost_23 (by decide) (fun c7 => ?_) (fun c7 => ?_)
      · replace h := e_f c7 h
        refine w_aload_n 0 ((some (0))) dX11_cost_36 rfl rfl ?_
        refine w_get (v := va_rf (some 26)) dX11_cost_37 fl_RX11_52 ⟨rfl, Or.inr ⟨rfl, by decide⟩⟩ (aFv_k rfl) ?_
        refine w_get dX11_cost_40 fl_RX11_262 ⟨rfl, Or.inr ⟨rfl, by decide⟩⟩ (aFv_i rfl) ?_
        exact l_X11_cost_43 _ _ _ _ _ h
      · replace h := e_t c7 h
        refine w_aload_n 0 ((some (0))) dX11_cost_26 rfl rfl ?_
        refine w_get (v := va_rf (some 26)) dX11_cost_27 fl_RX11_52 ⟨rfl, Or.inr ⟨rfl, by decide⟩⟩ (aFv_k rfl) ?_
        refine w_get dX11_cost_30 fl_RX11_259 ⟨rfl, Or.inr ⟨rfl, by decide⟩⟩ (aFv_i rfl) ?_
        refine w_goto 43 dX11_cost_33 (by decide) ?_
        exact l_X11_cost_43 _ _ _ _ _ h
    · replace h := e_t c6 h
      refine w_sub [] rfl ?_
      exact l_X11_cost_19 _ _ h
theorem dX5_rate_0 : decode cX5_rate 0 = .ok (.aload_n 0, 1) := by decide +kernel
theorem dX5_rate_1 : decode cX5_rate 1 = .ok (.iconst 0, 1) := by decide +kernel
theorem dX5_rate_2 : decode cX5_rate 2 = .ok (.putfield 35, 3) := by decide +kernel
theorem dX5_rate_5 : decode cX5_rate 5 = .ok (.iconst 0, 1) := by decide +kernel
theorem dX5_rate_6 : decode cX5_rate 6 = .ok (.istore_n 1, 1) := by decide +kernel
theorem dX5_rate_7 : decode cX5_rate 7 = .ok (.iload_n 1, 1) := by decide +kernel
theorem dX5_rate_8 : decode cX5_rate 8 = .ok (.aload_n 0, 1) := by decide +kernel
theorem dX5_rate_9 : decode cX5_rate 9 = .ok (.getfield 49, 3) := by decide +kernel
theorem dX5_rate_12 : decode cX5_rate 12 = .ok (.getfield 74, 3) := by decide +kernel
theorem dX5_rate_15 : decode cX5_rate 15 = .ok (.if_icmp .ge 93, 3) := by decide +kernel
theorem dX5_rate_18 : decode cX5_rate 18 = .ok (.aload_n 0, 1) := by decide +kernel
theorem dX5_rate_19 : decode cX5_rate 19 = .ok (.getfield 35, 3) := by decide +kernel
theorem dX5_rate_22 : decode cX5_rate 22 = .ok (.bipush 120, 2) := by decide +kernel
theorem dX5_rate_24 : decode cX5_rate 24 = .ok (.if_icmp .ge 84, 3) := by decide +kernel
theorem dX5_rate_27 : decode cX5_rate 27 = .ok (.aload_n 0, 1) := by decide +kernel
theorem dX5_rate_28 : decode cX5_rate 28 = .ok (.getfield 49, 3) := by decide +kernel
theorem dX5_rate_31 : decode cX5_rate 31 = .ok (.iload_n 1, 1) := by decide +kernel
theorem dX5_rate_32 : decode cX5_rate 32 = .ok (.invokevirtual 79, 3) := by decide +kernel
theorem dX5_rate_35 : decode cX5_rate 35 = .ok (.astore_n 2, 1) := by decide +kernel
theorem dX5_rate_36 : decode cX5_rate 36 = .ok (.aload_n 2, 1) := by decide +kernel
theorem dX5_rate_37 : decode cX5_rate 37 = .ok (.ifnull 65, 3) := by decide +kernel
theorem dX5_rate_40 : decode cX5_rate 40 = .ok (.aload_n 2, 1) := by decide +kernel
theorem dX5_rate_41 : decode cX5_rate 41 = .ok (.getfield 83, 3) := by decide +kernel
theorem dX5_rate_44 : decode cX5_rate 44 = .ok (.ldc 88, 2) := by decide +kernel
theorem dX5_rate_46 : decode cX5_rate 46 = .ok (.if_icmp .eq 56, 3) := by decide +kernel
theorem dX5_rate_49 : decode cX5_rate 49 = .ok (.aload_n 0, 1) := by decide +kernel
theorem dX5_rate_50 : decode cX5_rate 50 = .ok (.getfield 28, 3) := by decide +kernel
theorem dX5_rate_53 : decode cX5_rate 53 = .ok (.aload_n 0, 1) := by decide +kernel
theorem dX5_rate_54 : decode cX5_rate 54 = .ok (.getfield 35, 3) := by decide +kernel
theorem dX5_rate_57 : decode cX5_rate 57 = .ok (.aload_n 0, 1) := by decide +kernel
theorem dX5_rate_58 : decode cX5_rate 58 = .ok (.getfield 53, 3) := by decide +kernel
theorem dX5_rate_61 : decode cX5_rate 61 = .ok (.aload_n 2, 1) := by decide +kernel
theorem dX5_rate_62 : decode cX5_rate 62 = .ok (.iconst 0, 1) := by decide +kernel
theorem dX5_rate_63 : decode cX5_rate 63 = .ok (.invokevirtual 89, 3) := by decide +kernel
theorem dX5_rate_66 : decode cX5_rate 66 = .ok (.iastore, 1) := by decide +kernel
theorem dX5_rate_67 : decode cX5_rate 67 = .ok (.aload_n 0, 1) := by decide +kernel
theorem dX5_rate_68 : decode cX5_rate 68 = .ok (.getfield 32, 3) := by decide +kernel
theorem dX5_rate_71 : decode cX5_rate 71 = .ok (.aload_n 0, 1) := by decide +kernel
theorem dX5_rate_72 : decode cX5_rate 72 = .ok (.getfield 35, 3) := by decide +kernel
theorem dX5_rate_75 : decode cX5_rate 75 = .ok (.aload_n 2, 1) := by decide +kernel
theorem dX5_rate_76 : decode cX5_rate 76 = .ok (.getfield 83, 3) := by decide +kernel
theorem dX5_rate_79 : decode cX5_rate 79 = .ok (.iconst 1, 1) := by decide +kernel
theorem dX5_rate_80 : decode cX5_rate 80 = .ok (.if_icmp .ne 10, 3) := by decide +kernel
theorem dX5_rate_83 : decode cX5_rate 83 = .ok (.aload_n 2, 1) := by decide +kernel
theorem dX5_rate_84 : decode cX5_rate 84 = .ok (.getfield 95, 3) := by decide +kernel
theorem dX5_rate_87 : decode cX5_rate 87 = .ok (.goto 4, 3) := by decide +kernel
theorem dX5_rate_90 : decode cX5_rate 90 = .ok (.iconst 0, 1) := by decide +kernel
theorem dX5_rate_91 : decode cX5_rate 91 = .ok (.iastore, 1) := by decide +kernel
theorem dX5_rate_92 : decode cX5_rate 92 = .ok (.aload_n 0, 1) := by decide +kernel
theorem dX5_rate_93 : decode cX5_rate 93 = .ok (.dup, 1) := by decide +kernel
theorem dX5_rate_94 : decode cX5_rate 94 = .ok (.getfield 35, 3) := by decide +kernel
theorem dX5_rate_97 : decode cX5_rate 97 = .ok (.iconst 1, 1) := by decide +kernel
theorem dX5_rate_98 : decode cX5_rate 98 = .ok (.iadd, 1) := by decide +kernel
theorem dX5_rate_99 : decode cX5_rate 99 = .ok (.putfield 35, 3) := by decide +kernel
theorem dX5_rate_102 : decode cX5_rate 102 = .ok (.iinc 1 1, 3) := by decide +kernel
theorem dX5_rate_105 : decode cX5_rate 105 = .ok (.goto (-98), 3) := by decide +kernel
theorem dX5_rate_108 : decode cX5_rate 108 = .ok (.return_, 1) := by decide +kernel
theorem kd_X5_rate : aKd m_X5_rate 0 := ⟨wd_40_21, wd_2_9, ⟨by decide +kernel, by decide +kernel, by decide +kernel⟩⟩
set_option maxRecDepth 100000 in
set_option maxHeartbeats 4000000 in
theorem l_X5_rate_102 (rec7 : Int32 → aSt → Option (Unit × aSt)) (hrec7 : ∀ (x1 : Int32) (σ : aSt) (o : Unit × aSt), rec7 x1 σ = some o → AW true m_X5_rate 7 [(0, va_rf (some (26))), (1, Value.int (x1))] [] σ 0 0 none o.2) (x1 : Int32) (σ : aSt) (o : Unit × aSt) (h : f_X5_rate_102 rec7 x1 σ = some o) : AW true m_X5_rate 102 [(0, va_rf (some (26))), (1, Value.int (x1))] [] σ 0 0 none o.2 := by
  unfold f_X5_rate_102 at h
  refine w_iinc (q := 1) (v := x1 + 1) dX5_rate_102 rfl rfl (by decide) rfl ?_
  refine w_goto 7 dX5_rate_105 (by decide) ?_
  refine w_sub [1, 0] rfl ?_
  exact hrec7 _ _ _ h
set_option maxRecDepth 100000 in
set_option maxHeartbeats 4000000 in
theorem l_X5_rate_91 (rec7 : Int32 → aSt → Option (Unit × aSt)) (hrec7 : ∀ (x1 : Int32) (σ : aSt) (o : Unit × aSt), rec7 x1 σ = some o → AW true m_X5_rate 7 [(0, va_rf (some (26))), (1, Value.int (x1))] [] σ 0 0 none o.2) (x1 : Int32) (t1 : Int32) (t2 : Int32) (σ : aSt) (o : Unit × aSt) (h : f_X5_rate_91 rec7 x1 t1 t2 σ = some o) : AW true m_X5_rate 91 [(0, va_rf (some (26))), (1, Value.int (x1))] [.int (t2), .int (t1), va_rf (some (28))] σ 0 0 none o.2 := by
  unfold f_X5_rate_91 at h
  replace h := e_grd h; obtain ⟨b1, h⟩ := h
  refine w_iastore dX5_rate_91 ⟨rfl, Or.inr ⟨rfl, by decide⟩⟩ b1 ?_
  refine w_aload_n 0 ((some (26))) dX5_rate_92 rfl rfl ?_
  refine w_dup dX5_rate_93 (aRf_cat _) ?_
  refine w_get dX5_rate_94 fl_RX5_35 ⟨rfl, Or.inr ⟨rfl, by decide⟩⟩ (aFv_i rfl) ?_
  refine w_iconst (v := 1) dX5_rate_97 (by decide) ?_
  refine w_iadd dX5_rate_98 ?_
  refine w_putI dX5_rate_99 fl_RX5_35 (Or.inl rfl) rfl ⟨rfl, Or.inr ⟨rfl, by decide⟩⟩ ?_
  exact l_X5_rate_102 rec7 hrec7 _ _ _ h
set_option maxRecDepth 100000 in
set_option maxHeartbeats 4000000 in
theorem l_X5_rate_108   (σ : aSt) (o : Unit × aSt) (h : f_X5_rate_108   σ = some o) : AW true m_X5_rate 108 [] [] σ 0 0 none o.2 := by
  unfold f_X5_rate_108 at h
  obtain rfl := Option.some.inj h
  exact w_vreturn dX5_rate_108 rfl (Nat.le_of_ble_eq_true rfl) (Nat.le_of_ble_eq_true rfl)
set_option maxRecDepth 100000 in
set_option maxHeartbeats 4000000 in
theorem l_X5_rate_7_b (rec7 : Int32 → aSt → Option (Unit × aSt)) (hrec7 : ∀ (x1 : Int32) (σ : aSt) (o : Unit × aSt), rec7 x1 σ = some o → AW true m_X5_rate 7 [(0, va_rf (some (26))), (1, Value.int (x1))] [] σ 0 0 none o.2) (x1 : Int32) (σ : aSt) (o : Unit × aSt) (h : f_X5_rate_7_b rec7 x1 σ = some o) : AW true m_X5_rate 7 [(0, va_rf (some (26))), (1, Value.int (x1))] [] σ 0 0 none o.2 := by
  unfold f_X5_rate_7_b at h
  refine w_iload_n 1 dX5_rate_7 rfl rfl ?_
  refine w_aload_n 0 ((some (26))) dX5_rate_8 rfl rfl ?_
  refine w_get (v := va_rf (some 2)) dX5_rate_9 fl_RX5_49 ⟨rfl, Or.inr ⟨rfl, by decide⟩⟩ (aFv_k rfl) ?_
  refine w_get dX5_rate_12 fl_RX5_74 ⟨rfl, Or.inr ⟨rfl, by decide⟩⟩ (aFv_i rfl) ?_
  refine w_icmp_ge 108 dX5_rate_15 (by decide) (fun c2 => ?_) (fun c2 => ?_)
  · replace h := e_t c2 h
    refine w_sub [] rfl ?_
    exact l_X5_rate_108 _ _ h
  · replace h := e_f c2 h
    refine w_aload_n 0 ((some (26))) dX5_rate_18 rfl rfl ?_
    refine w_get dX5_rate_19 fl_RX5_35 ⟨rfl, Or.inr ⟨rfl, by decide⟩⟩ (aFv_i rfl) ?_
    refine w_bipush (v := 120) dX5_rate_22 (by decide) ?_
    refine w_icmp_ge 108 dX5_rate_24 (by decide) (fun c3 => ?_) (fun c3 => ?_)
    · replace h := e_t c3 h
      refine w_sub [] rfl ?_
      exact l_X5_rate_108 _ _ h
    · replace h := e_f c3 h
      refine w_aload_n 0 ((some (26))) dX5_rate_27 rfl rfl ?_
      refine w_get (v := va_rf (some 2)) dX5_rate_28 fl_RX5_49 ⟨rfl, Or.inr ⟨rfl, by decide⟩⟩ (aFv_k rfl) ?_
      refine w_iload_n 1 dX5_rate_31 rfl rfl ?_
      replace h := e_bind h; obtain ⟨q4, e5, h⟩ := h
      refine w_callV1 (M2 := m_X3_inOrder) (av := [.int (x1)]) (ci := 3) (c_X3_inOrder _ _ _ e5) dX5_rate_32 kd_X3_inOrder wd_41_2 wd_17_10 wd_17_11 rfl rfl ⟨rfl, Or.inr ⟨rfl, by decide⟩⟩ rfl ⟨Nat.le_of_ble_eq_true rfl, Nat.le_of_ble_eq_true rfl, Nat.le_of_ble_eq_true rfl, Nat.le_of_ble_eq_true rfl⟩ (Nat.le_of_ble_eq_true rfl) ?_
      refine w_astore_n dX5_rate_35 rfl (by decide) rfl ?_
      refine w_aload_n 0 (q4.1) dX5_rate_36 rfl rfl ?_
      replace h := e_oC h; rcases h with ⟨r14, h⟩ | ⟨a6, r14, h⟩
      · rw [r14]
        refine w_ifnull0 102 dX5_rate_37 (by decide) ?_
        refine w_sub [1, 2] rfl ?_
        exact l_X5_rate_102 rec7 hrec7 _ _ _ h
      · rw [r14]
        refine w_ifnull1 dX5_rate_37 ?_
        refine w_aload_n 0 ((some (a6))) dX5_rate_40 rfl rfl ?_
        replace h := e_grd h; obtain ⟨g7, h⟩ := h
        refine w_get dX5_rate_41 fl_RX5_83 ⟨g7.1, Or.inl g7.2⟩ (aFv_i rfl) ?_
        refine w_ldc (v := (-1000000)) dX5_rate_44 wd_41_0 ?_
        refine w_icmp_eq 102 dX5_rate_46 (by decide) (fun c8 => ?_) (fun c8 => ?_)
        · replace h := e_t c8 h
          refine w_sub [1, 2] rfl ?_
          exact l_X5_rate_102 rec7 hrec7 _ _ _ h
        · replace h := e_f c8 h
          refine w_aload_n 1 ((some (26))) dX5_rate_49 rfl rfl ?_
          refine w_get (v := va_rf (some 27)) dX5_rate_50 fl_RX5_28 ⟨rfl, Or.inr ⟨rfl, by decide⟩⟩ (aFv_k rfl) ?_
          refine w_aload_n 1 ((some (26))) dX5_rate_53 rfl rfl ?_
          refine w_get dX5_rate_54 fl_RX5_35 ⟨rfl, Or.inr ⟨rfl, by decide⟩⟩ (aFv_i rfl) ?_
          refine w_aload_n 1 ((some (26))) dX5_rate_57 rfl rfl ?_
          refine w_get (v := va_rf (some 11)) dX5_rate_58 fl_RX5_53 ⟨rfl, Or.inr ⟨rfl, by decide⟩⟩ (aFv_k rfl) ?_
          refine w_aload_n 0 ((some (a6))) dX5_rate_61 rfl rfl ?_
          refine w_iconst (v := 0) dX5_rate_62 (by decide) ?_
          replace h := e_bind h; obtain ⟨q9, e10, h⟩ := h
          refine w_callV1 (M2 := m_X2_scoreOf) (av := [va_rf (some (a6)), .int (0)]) (ci := 2) (c_X2_scoreOf _ _ _ _ e10) dX5_rate_63 kd_X2_scoreOf wd_41_3 wd_33_20 wd_33_21 rfl rfl ⟨rfl, Or.inr ⟨rfl, by decide⟩⟩ rfl ⟨Nat.le_of_ble_eq_true rfl, Nat.le_of_ble_eq_true rfl, Nat.le_of_ble_eq_true rfl, Nat.le_of_ble_eq_true rfl⟩ (Nat.le_of_ble_eq_true rfl) ?_
          replace h := e_grd h; obtain ⟨b11, h⟩ := h
          refine w_iastore dX5_rate_66 ⟨rfl, Or.inr ⟨rfl, by decide⟩⟩ b11 ?_
          refine w_aload_n 1 ((some (26))) dX5_rate_67 rfl rfl ?_
          refine w_get (v := va_rf (some 28)) dX5_rate_68 fl_RX5_32 ⟨rfl, Or.inr ⟨rfl, by decide⟩⟩ (aFv_k rfl) ?_
          refine w_aload_n 1 ((some (26))) dX5_rate_71 rfl rfl ?_
          refine w_get dX5_rate_72 fl_RX5_35 ⟨rfl, Or.inr ⟨rfl, by decide⟩⟩ (aFv_i rfl) ?_
          refine w_aload_n 0 ((some (a6))) dX5_rate_75 rfl rfl ?_
          replace h := e_grd h; obtain ⟨g12, h⟩ := h
          refine w_get dX5_rate_76 fl_RX5_83 ⟨g12.1, Or.inl g12.2⟩ (aFv_i rfl) ?_
          refine w_iconst (v := 1) dX5_rate_79 (by decide) ?_
          refine w_icmp_ne 90 dX5_rate_80 (by decide) (fun c13 => ?_) (fun c13 => ?_)
          · replace h := e_f c13 h
            refine w_iconst (v := 0) dX5_rate_90 (by decide) ?_
            refine w_sub [1, 2] rfl ?_
            exact l_X5_rate_91 rec7 hrec7 _ _ _ _ _ h
          · replace h := e_t c13 h
            refine w_aload_n 0 ((some (a6))) dX5_rate_83 rfl rfl ?_
            refine w_get dX5_rate_84 fl_RX5_95 ⟨g12.1, Or.inl g12.2⟩ (aFv_i rfl) ?_
            refine w_goto 91 dX5_rate_87 (by decide) ?_
            refine w_sub [1, 2] rfl ?_
            exact l_X5_rate_91 rec7 hrec7 _ _ _ _ _ h
theorem l_X5_rate_7  : ∀ (n : Nat) (x1 : Int32) (σ : aSt) (o : Unit × aSt), f_X5_rate_7  n x1 σ = some o → AW true m_X5_rate 7 [(0, va_rf (some (26))), (1, Value.int (x1))] [] σ 0 0 none o.2
  | 0 => fun x1 σ o h => by cases h
  | n + 1 => fun x1 σ o h => l_X5_rate_7_b (f_X5_rate_7  n) (l_X5_rate_7  n) x1 σ o h
set_option maxRecDepth 100000 in
set_option maxHeartbeats 4000000 in
theorem c_X5_rate  (σ : aSt) (o : Unit × aSt) (h : f_X5_rate  σ = some o) : AM true m_X5_rate [va_rf (some (26))] σ none o.2 := by
  refine AM_of2 (lv := [(0, va_rf (some (26)))]) (by decide +kernel) rfl (Nat.le_of_ble_eq_true rfl) ?_
  unfold f_X5_rate at h
  refine w_aload_n 0 ((some (26))) dX5_rate_0 rfl rfl ?_
  refine w_iconst (v := 0) dX5_rate_1 (by decide) ?_
  refine w_putI dX5_rate_2 fl_RX5_35 (Or.inl rfl) rfl ⟨rfl, Or.inr ⟨rfl, by decide⟩⟩ ?_
  refine w_iconst (v := 0) dX5_rate_5 (by decide) ?_
  refine w_istore_n dX5_rate_6 rfl (by decide) rfl ?_
  refine w_sub [1, 0] rfl ?_
  exact l_X5_rate_7 aN _ _ _ h
theorem dX5_lookPart_0 : decode cX5_lookPart 0 = .ok (.lconst 0, 1) := by decide +kernel
theorem dX5_lookPart_1 : decode cX5_lookPart 1 = .ok (.lstore_n 2, 1) := by decide +kernel
theorem dX5_lookPart_2 : decode cX5_lookPart 2 = .ok (.iconst 0, 1) := by decide +kernel
theorem dX5_lookPart_3 : decode cX5_lookPart 3 = .ok (.istore 4, 2) := by decide +kernel
theorem dX5_lookPart_5 : decode cX5_lookPart 5 = .ok (.iload 4, 2) := by decide +kernel
theorem dX5_lookPart_7 : decode cX5_lookPart 7 = .ok (.aload_n 0, 1) := by decide +kernel
theorem dX5_lookPart_8 : decode cX5_lookPart 8 = .ok (.getfield 35, 3) := by decide +kernel
theorem dX5_lookPart_11 : decode cX5_lookPart 11 = .ok (.if_icmp .ge 39, 3) := by decide +kernel
theorem dX5_lookPart_14 : decode cX5_lookPart 14 = .ok (.lload_n 2, 1) := by decide +kernel
theorem dX5_lookPart_15 : decode cX5_lookPart 15 = .ok (.aload_n 0, 1) := by decide +kernel
theorem dX5_lookPart_16 : decode cX5_lookPart 16 = .ok (.getfield 28, 3) := by decide +kernel
theorem dX5_lookPart_19 : decode cX5_lookPart 19 = .ok (.iload 4, 2) := by decide +kernel
theorem dX5_lookPart_21 : decode cX5_lookPart 21 = .ok (.iaload, 1) := by decide +kernel
theorem dX5_lookPart_22 : decode cX5_lookPart 22 = .ok (.iload_n 1, 1) := by decide +kernel
theorem dX5_lookPart_23 : decode cX5_lookPart 23 = .ok (.if_icmp .lt 11, 3) := by decide +kernel
theorem dX5_lookPart_26 : decode cX5_lookPart 26 = .ok (.aload_n 0, 1) := by decide +kernel
theorem dX5_lookPart_27 : decode cX5_lookPart 27 = .ok (.getfield 15, 3) := by decide +kernel
theorem dX5_lookPart_30 : decode cX5_lookPart 30 = .ok (.i2l, 1) := by decide +kernel
theorem dX5_lookPart_31 : decode cX5_lookPart 31 = .ok (.goto 11, 3) := by decide +kernel
theorem dX5_lookPart_34 : decode cX5_lookPart 34 = .ok (.aload_n 0, 1) := by decide +kernel
theorem dX5_lookPart_35 : decode cX5_lookPart 35 = .ok (.getfield 32, 3) := by decide +kernel
theorem dX5_lookPart_38 : decode cX5_lookPart 38 = .ok (.iload 4, 2) := by decide +kernel
theorem dX5_lookPart_40 : decode cX5_lookPart 40 = .ok (.iaload, 1) := by decide +kernel
theorem dX5_lookPart_41 : decode cX5_lookPart 41 = .ok (.i2l, 1) := by decide +kernel
theorem dX5_lookPart_42 : decode cX5_lookPart 42 = .ok (.ladd, 1) := by decide +kernel
theorem dX5_lookPart_43 : decode cX5_lookPart 43 = .ok (.lstore_n 2, 1) := by decide +kernel
theorem dX5_lookPart_44 : decode cX5_lookPart 44 = .ok (.iinc 4 1, 3) := by decide +kernel
theorem dX5_lookPart_47 : decode cX5_lookPart 47 = .ok (.goto (-42), 3) := by decide +kernel
theorem dX5_lookPart_50 : decode cX5_lookPart 50 = .ok (.lload_n 2, 1) := by decide +kernel
theorem dX5_lookPart_51 : decode cX5_lookPart 51 = .ok (.lreturn, 1) := by decide +kernel
theorem kd_X5_lookPart : aKd m_X5_lookPart 1 := ⟨wd_41_7, wd_2_9, ⟨by decide +kernel, by decide +kernel, by decide +kernel⟩⟩
set_option maxRecDepth 100000 in
set_option maxHeartbeats 4000000 in
theorem l_X5_lookPart_42 (rec5 : Int32 → Int64 → Int32 → aSt → Option (Int64 × aSt)) (hrec5 : ∀ (x1 : Int32) (x2 : Int64) (x4 : Int32) (σ : aSt) (o : Int64 × aSt), rec5 x1 x2 x4 σ = some o → AW true m_X5_lookPart 5 [(0, va_rf (some (26))), (1, Value.int (x1)), (2, Value.long (x2)), (4, Value.int (x4))] [] σ 0 0 (some (.long o.1)) o.2) (x1 : Int32) (x4 : Int32) (t0 : Int64) (t1 : Int64) (σ : aSt) (o : Int64 × aSt) (h : f_X5_lookPart_42 rec5 x1 x4 t0 t1 σ = some o) : AW true m_X5_lookPart 42 [(0, va_rf (some (26))), (1, Value.int (x1)), (4, Value.int (x4))] [.long (t1), .long (t0)] σ 0 0 (some (.long o.1)) o.2 := by
  unfold f_X5_lookPart_42 at h
  refine w_ladd dX5_lookPart_42 ?_
  refine w_lstore_n dX5_lookPart_43 rfl (by decide) rfl ?_
  refine w_iinc (q := 3) (v := x4 + 1) dX5_lookPart_44 rfl rfl (by decide) rfl ?_
  refine w_goto 5 dX5_lookPart_47 (by decide) ?_
  refine w_sub [2, 3, 1, 0] rfl ?_
  exact hrec5 _ _ _ _ _ h
set_option maxRecDepth 100000 in
set_option maxHeartbeats 4000000 in
theorem l_X5_lookPart_5_b (rec5 : Int32 → Int64 → Int32 → aSt → Option (Int64 × aSt)) (hrec5 : ∀ (x1 : Int32) (x2 : Int64) (x4 : Int32) (σ : aSt) (o : Int64 × aSt), rec5 x1 x2 x4 σ = some o → AW true m_X5_lookPart 5 [(0, va_rf (some (26))), (1, Value.int (x1)), (2, Value.long (x2)), (4, Value.int (x4))] [] σ 0 0 (some (.long o.1)) o.2) (x1 : Int32) (x2 : Int64) (x4 : Int32) (σ : aSt) (o : Int64 × aSt) (h : f_X5_lookPart_5_b rec5 x1 x2 x4 σ = some o) : AW true m_X5_lookPart 5 [(0, va_rf (some (26))), (1, Value.int (x1)), (2, Value.long (x2)), (4, Value.int (x4))] [] σ 0 0 (some (.long o.1)) o.2 := by
  unfold f_X5_lookPart_5_b at h
  refine w_iload 3 dX5_lookPart_5 rfl ?_
  refine w_aload_n 0 ((some (26))) dX5_lookPart_7 rfl rfl ?_
  refine w_get dX5_lookPart_8 fl_RX5_35 ⟨rfl, Or.inr ⟨rfl, by decide⟩⟩ (aFv_i rfl) ?_
  refine w_icmp_ge 50 dX5_lookPart_11 (by decide) (fun c1 => ?_) (fun c1 => ?_)
  · replace h := e_t c1 h
    refine w_lload_n 2 dX5_lookPart_50 rfl rfl ?_
    obtain rfl := Option.some.inj h
    exact w_lreturn dX5_lookPart_51 rfl (Nat.le_of_ble_eq_true rfl) (Nat.le_of_ble_eq_true rfl)
  · replace h := e_f c1 h
    refine w_lload_n 2 dX5_lookPart_14 rfl rfl ?_
    refine w_aload_n 0 ((some (26))) dX5_lookPart_15 rfl rfl ?_
    refine w_get (v := va_rf (some 27)) dX5_lookPart_16 fl_RX5_28 ⟨rfl, Or.inr ⟨rfl, by decide⟩⟩ (aFv_k rfl) ?_
    refine w_iload 3 dX5_lookPart_19 rfl ?_
    replace h := e_grd h; obtain ⟨b2, h⟩ := h
    refine w_iaload dX5_lookPart_21 ⟨rfl, Or.inr ⟨rfl, by decide⟩⟩ b2 ?_
    refine w_iload_n 1 dX5_lookPart_22 rfl rfl ?_
    refine w_icmp_lt 34 dX5_lookPart_23 (by decide) (fun c3 => ?_) (fun c3 => ?_)
    · replace h := e_t c3 h
      refine w_aload_n 0 ((some (26))) dX5_lookPart_34 rfl rfl ?_
      refine w_get (v := va_rf (some 28)) dX5_lookPart_35 fl_RX5_32 ⟨rfl, Or.inr ⟨rfl, by decide⟩⟩ (aFv_k rfl) ?_
      refine w_iload 3 dX5_lookPart_38 rfl ?_
      replace h := e_grd h; obtain ⟨b4, h⟩ := h
      refine w_iaload dX5_lookPart_40 ⟨rfl, Or.inr ⟨rfl, by decide⟩⟩ b4 ?_
      refine w_i2l dX5_lookPart_41 ?_
      refine w_sub [0, 1, 3] rfl ?_
      exact l_X5_lookPart_42 rec5 hrec5 _ _ _ _ _ _ h
    · replace h := e_f c3 h
      refine w_aload_n 0 ((some (26))) dX5_lookPart_26 rfl rfl ?_
      refine w_get dX5_lookPart_27 fl_RX5_15 ⟨rfl, Or.inr ⟨rfl, by decide⟩⟩ (aFv_i rfl) ?_
      refine w_i2l dX5_lookPart_30 ?_
      refine w_goto 42 dX5_lookPart_31 (by decide) ?_
      refine w_sub [0, 1, 3] rfl ?_
      exact l_X5_lookPart_42 rec5 hrec5 _ _ _ _ _ _ h
theorem l_X5_lookPart_5  : ∀ (n : Nat) (x1 : Int32) (x2 : Int64) (x4 : Int32) (σ : aSt) (o : Int64 × aSt), f_X5_lookPart_5  n x1 x2 x4 σ = some o → AW true m_X5_lookPart 5 [(0, va_rf (some (26))), (1, Value.int (x1)), (2, Value.long (x2)), (4, Value.int (x4))] [] σ 0 0 (some (.long o.1)) o.2
  | 0 => fun x1 x2 x4 σ o h => by cases h
  | n + 1 => fun x1 x2 x4 σ o h => l_X5_lookPart_5_b (f_X5_lookPart_5  n) (l_X5_lookPart_5  n) x1 x2 x4 σ o h
set_option maxRecDepth 100000 in
set_option maxHeartbeats 4000000 in
theorem c_X5_lookPart (p1 : Int32) (σ : aSt) (o : Int64 × aSt) (h : f_X5_lookPart p1 σ = some o) : AM true m_X5_lookPart [va_rf (some (26)), .int (p1)] σ (some (.long o.1)) o.2 := by
  refine AM_of2 (lv := [(0, va_rf (some (26))), (1, Value.int (p1))]) (by decide +kernel) rfl (Nat.le_of_ble_eq_true rfl) ?_
  unfold f_X5_lookPart at h
  refine w_lconst (v := 0) dX5_lookPart_0 (by decide) ?_
  refine w_lstore_n dX5_lookPart_1 rfl (by decide) rfl ?_
  refine w_iconst (v := 0) dX5_lookPart_2 (by decide) ?_
  refine w_istore dX5_lookPart_3 (by decide) rfl ?_
  refine w_sub [2, 3, 1, 0] rfl ?_
  exact l_X5_lookPart_5 aN _ _ _ _ _ h
theorem dX5_blockPart_0 : decode cX5_blockPart 0 = .ok (.lconst 0, 1) := by decide +kernel
theorem dX5_blockPart_1 : decode cX5_blockPart 1 = .ok (.lstore_n 2, 1) := by decide +kernel
theorem dX5_blockPart_2 : decode cX5_blockPart 2 = .ok (.iconst 0, 1) := by decide +kernel
theorem dX5_blockPart_3 : decode cX5_blockPart 3 = .ok (.istore 4, 2) := by decide +kernel
theorem dX5_blockPart_5 : decode cX5_blockPart 5 = .ok (.iload 4, 2) := by decide +kernel
theorem dX5_blockPart_7 : decode cX5_blockPart 7 = .ok (.aload_n 0, 1) := by decide +kernel
theorem dX5_blockPart_8 : decode cX5_blockPart 8 = .ok (.getfield 35, 3) := by decide +kernel
theorem dX5_blockPart_11 : decode cX5_blockPart 11 = .ok (.if_icmp .ge 47, 3) := by decide +kernel
theorem dX5_blockPart_14 : decode cX5_blockPart 14 = .ok (.aload_n 0, 1) := by decide +kernel
theorem dX5_blockPart_15 : decode cX5_blockPart 15 = .ok (.getfield 28, 3) := by decide +kernel
theorem dX5_blockPart_18 : decode cX5_blockPart 18 = .ok (.iload 4, 2) := by decide +kernel
theorem dX5_blockPart_20 : decode cX5_blockPart 20 = .ok (.iaload, 1) := by decide +kernel
theorem dX5_blockPart_21 : decode cX5_blockPart 21 = .ok (.iload_n 1, 1) := by decide +kernel
theorem dX5_blockPart_22 : decode cX5_blockPart 22 = .ok (.if_icmp .lt 30, 3) := by decide +kernel
theorem dX5_blockPart_25 : decode cX5_blockPart 25 = .ok (.lload_n 2, 1) := by decide +kernel
theorem dX5_blockPart_26 : decode cX5_blockPart 26 = .ok (.aload_n 0, 1) := by decide +kernel
theorem dX5_blockPart_27 : decode cX5_blockPart 27 = .ok (.getfield 32, 3) := by decide +kernel
theorem dX5_blockPart_30 : decode cX5_blockPart 30 = .ok (.iload 4, 2) := by decide +kernel
theorem dX5_blockPart_32 : decode cX5_blockPart 32 = .ok (.iaload, 1) := by decide +kernel
theorem dX5_blockPart_33 : decode cX5_blockPart 33 = .ok (.ifCond .ne 10, 3) := by decide +kernel
theorem dX5_blockPart_36 : decode cX5_blockPart 36 = .ok (.aload_n 0, 1) := by decide +kernel
theorem dX5_blockPart_37 : decode cX5_blockPart 37 = .ok (.getfield 9, 3) := by decide +kernel
theorem dX5_blockPart_40 : decode cX5_blockPart 40 = .ok (.goto 4, 3) := by decide +kernel
theorem dX5_blockPart_43 : decode cX5_blockPart 43 = .ok (.iconst 0, 1) := by decide +kernel
theorem dX5_blockPart_44 : decode cX5_blockPart 44 = .ok (.aload_n 0, 1) := by decide +kernel
theorem dX5_blockPart_45 : decode cX5_blockPart 45 = .ok (.getfield 15, 3) := by decide +kernel
theorem dX5_blockPart_48 : decode cX5_blockPart 48 = .ok (.isub, 1) := by decide +kernel
theorem dX5_blockPart_49 : decode cX5_blockPart 49 = .ok (.i2l, 1) := by decide +kernel
theorem dX5_blockPart_50 : decode cX5_blockPart 50 = .ok (.ladd, 1) := by decide +kernel
theorem dX5_blockPart_51 : decode cX5_blockPart 51 = .ok (.lstore_n 2, 1) := by decide +kernel
theorem dX5_blockPart_52 : decode cX5_blockPart 52 = .ok (.iinc 4 1, 3) := by decide +kernel
theorem dX5_blockPart_55 : decode cX5_blockPart 55 = .ok (.goto (-50), 3) := by decide +kernel
theorem dX5_blockPart_58 : decode cX5_blockPart 58 = .ok (.lload_n 2, 1) := by decide +kernel
theorem dX5_blockPart_59 : decode cX5_blockPart 59 = .ok (.lreturn, 1) := by decide +kernel
theorem kd_X5_blockPart : aKd m_X5_blockPart 1 := ⟨wd_41_11, wd_2_9, ⟨by decide +kernel, by decide +kernel, by decide +kernel⟩⟩
set_option maxRecDepth 100000 in
set_option maxHeartbeats 4000000 in
theorem l_X5_blockPart_52 (rec5 : Int32 → Int64 → Int32 → aSt → Option (Int64 × aSt)) (hrec5 : ∀ (x1 : Int32) (x2 : Int64) (x4 : Int32) (σ : aSt) (o : Int64 × aSt), rec5 x1 x2 x4 σ = some o → AW true m_X5_blockPart 5 [(0, va_rf (some (26))), (1, Value.int (x1)), (2, Value.long (x2)), (4, Value.int (x4))] [] σ 0 0 (some (.long o.1)) o.2) (x1 : Int32) (x2 : Int64) (x4 : Int32) (σ : aSt) (o : Int64 × aSt) (h : f_X5_blockPart_52 rec5 x1 x2 x4 σ = some o) : AW true m_X5_blockPart 52 [(0, va_rf (some (26))), (1, Value.int (x1)), (2, Value.long (x2)), (4, Value.int (x4))] [] σ 0 0 (some (.long o.1)) o.2 := by
  unfold f_X5_blockPart_52 at h
  refine w_iinc (q := 3) (v := x4 + 1) dX5_blockPart_52 rfl rfl (by decide) rfl ?_
  refine w_goto 5 dX5_blockPart_55 (by decide) ?_
  refine w_sub [1, 2, 3, 0] rfl ?_
  exact hrec5 _ _ _ _ _ h
set_option maxRecDepth 100000 in
set_option maxHeartbeats 4000000 in
theorem l_X5_blockPart_44 (rec5 : Int32 → Int64 → Int32 → aSt → Option (Int64 × aSt)) (hrec5 : ∀ (x1 : Int32) (x2 : Int64) (x4 : Int32) (σ : aSt) (o : Int64 × aSt), rec5 x1 x2 x4 σ = some o → AW true m_X5_blockPart 5 [(0, va_rf (some (26))), (1, Value.int (x1)), (2, Value.long (x2)), (4, Value.int (x4))] [] σ 0 0 (some (.long o.1)) o.2) (x1 : Int32) (x4 : Int32) (t0 : Int64) (t1 : Int32) (σ : aSt) (o : Int64 × aSt) (h : f_X5_blockPart_44 rec5 x1 x4 t0 t1 σ = some o) : AW true m_X5_blockPart 44 [(0, va_rf (some (26))), (1, Value.int (x1)), (4, Value.int (x4))] [.int (t1), .long (t0)] σ 0 0 (some (.long o.1)) o.2 := by
  unfold f_X5_blockPart_44 at h
  refine w_aload_n 0 ((some (26))) dX5_blockPart_44 rfl rfl ?_
  refine w_get dX5_blockPart_45 fl_RX5_15 ⟨rfl, Or.inr ⟨rfl, by decide⟩⟩ (aFv_i rfl) ?_
  refine w_isub dX5_blockPart_48 ?_
  refine w_i2l dX5_blockPart_49 ?_
  refine w_ladd dX5_blockPart_50 ?_
  refine w_lstore_n dX5_blockPart_51 rfl (by decide) rfl ?_
  refine w_sub [1, 2, 0, 3] rfl ?_
  exact l_X5_blockPart_52 rec5 hrec5 _ _ _ _ _ h
set_option maxRecDepth 100000 in
set_option maxHeartbeats 4000000 in
theorem l_X5_blockPart_5_b (rec5 : Int32 → Int64 → Int32 → aSt → Option (Int64 × aSt)) (hrec5 : ∀ (x1 : Int32) (x2 : Int64) (x4 : Int32) (σ : aSt) (o : Int64 × aSt), rec5 x1 x2 x4 σ = some o → AW true m_X5_blockPart 5 [(0, va_rf (some (26))), (1, Value.int (x1)), (2, Value.long (x2)), (4, Value.int (x4))] [] σ 0 0 (some (.long o.1)) o.2) (x1 : Int32) (x2 : Int64) (x4 : Int32) (σ : aSt) (o : Int64 × aSt) (h : f_X5_blockPart_5_b rec5 x1 x2 x4 σ = some o) : AW true m_X5_blockPart 5 [(0, va_rf (some (26))), (1, Value.int (x1)), (2, Value.long (x2)), (4, Value.int (x4))] [] σ 0 0 (some (.long o.1)) o.2 := by
  unfold f_X5_blockPart_5_b at h
  refine w_iload 3 dX5_blockPart_5 rfl ?_
  refine w_aload_n 0 ((some (26))) dX5_blockPart_7 rfl rfl ?_
  refine w_get dX5_blockPart_8 fl_RX5_35 ⟨rfl, Or.inr ⟨rfl, by decide⟩⟩ (aFv_i rfl) ?_
  refine w_icmp_ge 58 dX5_blockPart_11 (by decide) (fun c1 => ?_) (fun c1 => ?_)
  · replace h := e_t c1 h
    refine w_lload_n 2 dX5_blockPart_58 rfl rfl ?_
    obtain rfl := Option.some.inj h
    exact w_lreturn dX5_blockPart_59 rfl (Nat.le_of_ble_eq_true rfl) (Nat.le_of_ble_eq_true rfl)
  · replace h := e_f c1 h
    refine w_aload_n 0 ((some (26))) dX5_blockPart_14 rfl rfl ?_
    refine w_get (v := va_rf (some 27)) dX5_blockPart_15 fl_RX5_28 ⟨rfl, Or.inr ⟨rfl, by decide⟩⟩ (aFv_k rfl) ?_
    refine w_iload 3 dX5_blockPart_18 rfl ?_
    replace h := e_grd h; obtain ⟨b2, h⟩ := h
    refine w_iaload dX5_blockPart_20 ⟨rfl, Or.inr ⟨rfl, by decide⟩⟩ b2 ?_
    refine w_iload_n 1 dX5_blockPart_21 rfl rfl ?_
    refine w_icmp_lt 52 dX5_blockPart_22 (by decide) (fun c3 => ?_) (fun c3 => ?_)
    · replace h := e_t c3 h
      exact l_X5_blockPart_52 rec5 hrec5 _ _ _ _ _ h
    · replace h := e_f c3 h
      refine w_lload_n 2 dX5_blockPart_25 rfl rfl ?_
      refine w_aload_n 0 ((some (26))) dX5_blockPart_26 rfl rfl ?_
      refine w_get (v := va_rf (some 28)) dX5_blockPart_27 fl_RX5_32 ⟨rfl, Or.inr ⟨rfl, by decide⟩⟩ (aFv_k rfl) ?_
      refine w_iload 3 dX5_blockPart_30 rfl ?_
      replace h := e_grd h; obtain ⟨b4, h⟩ := h
      refine w_iaload dX5_blockPart_32 ⟨rfl, Or.inr ⟨rfl, by decide⟩⟩ b4 ?_
      refine w_if_ne 43 dX5_blockPart_33 (by decide) (fun c5 => ?_) (fun c5 => ?_)
      · replace h := e_f c5 h
        refine w_iconst (v := 0) dX5_blockPart_43 (by decide) ?_
        refine w_sub [0, 1, 3] rfl ?_
        exact l_X5_blockPart_44 rec5 hrec5 _ _ _ _ _ _ h
      · replace h := e_t c5 h
        refine w_aload_n 0 ((some (26))) dX5_blockPart_36 rfl rfl ?_
        refine w_get dX5_blockPart_37 fl_RX5_9 ⟨rfl, Or.inr ⟨rfl, by decide⟩⟩ (aFv_i rfl) ?_
        refine w_goto 44 dX5_blockPart_40 (by decide) ?_
        refine w_sub [0, 1, 3] rfl ?_
        exact l_X5_blockPart_44 rec5 hrec5 _ _ _ _ _ _ h
theorem l_X5_blockPart_5  : ∀ (n : Nat) (x1 : Int32) (x2 : Int64) (x4 : Int32) (σ : aSt) (o : Int64 × aSt), f_X5_blockPart_5  n x1 x2 x4 σ = some o → AW true m_X5_blockPart 5 [(0, va_rf (some (26))), (1, Value.int (x1)), (2, Value.long (x2)), (4, Value.int (x4))] [] σ 0 0 (some (.long o.1)) o.2
  | 0 => fun x1 x2 x4 σ o h => by cases h
  | n + 1 => fun x1 x2 x4 σ o h => l_X5_blockPart_5_b (f_X5_blockPart_5  n) (l_X5_blockPart_5  n) x1 x2 x4 σ o h
set_option maxRecDepth 100000 in
set_option maxHeartbeats 4000000 in
theorem c_X5_blockPart (p1 : Int32) (σ : aSt) (o : Int64 × aSt) (h : f_X5_blockPart p1 σ = some o) : AM true m_X5_blockPart [va_rf (some (26)), .int (p1)] σ (some (.long o.1)) o.2 := by
  refine AM_of2 (lv := [(0, va_rf (some (26))), (1, Value.int (p1))]) (by decide +kernel) rfl (Nat.le_of_ble_eq_true rfl) ?_
  unfold f_X5_blockPart at h
  refine w_lconst (v := 0) dX5_blockPart_0 (by decide) ?_
  refine w_lstore_n dX5_blockPart_1 rfl (by decide) rfl ?_
  refine w_iconst (v := 0) dX5_blockPart_2 (by decide) ?_
  refine w_istore dX5_blockPart_3 (by decide) rfl ?_
  refine w_sub [2, 3, 1, 0] rfl ?_
  exact l_X5_blockPart_5 aN _ _ _ _ _ h
theorem dX5_priceOf_0 : decode cX5_priceOf 0 = .ok (.aload_n 0, 1) := by decide +kernel
theorem dX5_priceOf_1 : decode cX5_priceOf 1 = .ok (.invokevirtual 57, 3) := by decide +kernel
theorem dX5_priceOf_4 : decode cX5_priceOf 4 = .ok (.aload_n 0, 1) := by decide +kernel
theorem dX5_priceOf_5 : decode cX5_priceOf 5 = .ok (.iload_n 1, 1) := by decide +kernel
theorem dX5_priceOf_6 : decode cX5_priceOf 6 = .ok (.invokevirtual 60, 3) := by decide +kernel
theorem dX5_priceOf_9 : decode cX5_priceOf 9 = .ok (.aload_n 0, 1) := by decide +kernel
theorem dX5_priceOf_10 : decode cX5_priceOf 10 = .ok (.iload_n 2, 1) := by decide +kernel
theorem dX5_priceOf_11 : decode cX5_priceOf 11 = .ok (.invokevirtual 64, 3) := by decide +kernel
theorem dX5_priceOf_14 : decode cX5_priceOf 14 = .ok (.ladd, 1) := by decide +kernel
theorem dX5_priceOf_15 : decode cX5_priceOf 15 = .ok (.lreturn, 1) := by decide +kernel
theorem kd_X5_priceOf : aKd m_X5_priceOf 2 := ⟨wd_40_17, wd_2_9, ⟨by decide +kernel, by decide +kernel, by decide +kernel⟩⟩
set_option maxRecDepth 100000 in
set_option maxHeartbeats 4000000 in
theorem c_X5_priceOf (p1 : Int32) (p2 : Int32) (σ : aSt) (o : Int64 × aSt) (h : f_X5_priceOf p1 p2 σ = some o) : AM true m_X5_priceOf [va_rf (some (26)), .int (p1), .int (p2)] σ (some (.long o.1)) o.2 := by
  refine AM_of2 (lv := [(0, va_rf (some (26))), (1, Value.int (p1)), (2, Value.int (p2))]) (by decide +kernel) rfl (Nat.le_of_ble_eq_true rfl) ?_
  unfold f_X5_priceOf at h
  refine w_aload_n 0 ((some (26))) dX5_priceOf_0 rfl rfl ?_
  replace h := e_bind h; obtain ⟨q1, e2, h⟩ := h
  refine w_callV0 (M2 := m_X5_rate) (av := []) (ci := 5) (c_X5_rate  _ _ e2) dX5_priceOf_1 kd_X5_rate wd_40_18 wd_40_19 wd_40_20 rfl rfl ⟨rfl, Or.inr ⟨rfl, by decide⟩⟩ rfl ⟨Nat.le_of_ble_eq_true rfl, Nat.le_of_ble_eq_true rfl, Nat.le_of_ble_eq_true rfl, Nat.le_of_ble_eq_true rfl⟩ (Nat.le_of_ble_eq_true rfl) ?_
  refine w_aload_n 0 ((some (26))) dX5_priceOf_4 rfl rfl ?_
  refine w_iload_n 1 dX5_priceOf_5 rfl rfl ?_
  replace h := e_bind h; obtain ⟨q3, e4, h⟩ := h
  refine w_callV1 (M2 := m_X5_lookPart) (av := [.int (p1)]) (ci := 5) (c_X5_lookPart _ _ _ e4) dX5_priceOf_6 kd_X5_lookPart wd_41_4 wd_41_5 wd_41_6 rfl rfl ⟨rfl, Or.inr ⟨rfl, by decide⟩⟩ rfl ⟨Nat.le_of_ble_eq_true rfl, Nat.le_of_ble_eq_true rfl, Nat.le_of_ble_eq_true rfl, Nat.le_of_ble_eq_true rfl⟩ (Nat.le_of_ble_eq_true rfl) ?_
  refine w_aload_n 0 ((some (26))) dX5_priceOf_9 rfl rfl ?_
  refine w_iload_n 2 dX5_priceOf_10 rfl rfl ?_
  replace h := e_bind h; obtain ⟨q5, e6, h⟩ := h
  refine w_callV1 (M2 := m_X5_blockPart) (av := [.int (p2)]) (ci := 5) (c_X5_blockPart _ _ _ e6) dX5_priceOf_11 kd_X5_blockPart wd_41_8 wd_41_9 wd_41_10 rfl rfl ⟨rfl, Or.inr ⟨rfl, by decide⟩⟩ rfl ⟨Nat.le_of_ble_eq_true rfl, Nat.le_of_ble_eq_true rfl, Nat.le_of_ble_eq_true rfl, Nat.le_of_ble_eq_true rfl⟩ (Nat.le_of_ble_eq_true rfl) ?_
  refine w_ladd dX5_priceOf_14 ?_
  obtain rfl := Option.some.inj h
  exact w_lreturn dX5_priceOf_15 rfl (Nat.le_of_ble_eq_true rfl) (Nat.le_of_ble_eq_true rfl)
theorem dX11_setting_0 : decode cX11_setting 0 = .ok (.iload_n 1, 1) := by decide +kernel
theorem dX11_setting_1 : decode cX11_setting 1 = .ok (.iconst 0, 1) := by decide +kernel
theorem dX11_setting_2 : decode cX11_setting 2 = .ok (.sipush 20000, 3) := by decide +kernel
theorem dX11_setting_5 : decode cX11_setting 5 = .ok (.invokestatic 89, 3) := by decide +kernel
theorem dX11_setting_8 : decode cX11_setting 8 = .ok (.ifCond .eq 14, 3) := by decide +kernel
theorem dX11_setting_11 : decode cX11_setting 11 = .ok (.iload_n 2, 1) := by decide +kernel
theorem dX11_setting_12 : decode cX11_setting 12 = .ok (.iload_n 1, 1) := by decide +kernel
theorem dX11_setting_13 : decode cX11_setting 13 = .ok (.sipush 20000, 3) := by decide +kernel
theorem dX11_setting_16 : decode cX11_setting 16 = .ok (.invokestatic 89, 3) := by decide +kernel
theorem dX11_setting_19 : decode cX11_setting 19 = .ok (.ifCond .ne 7, 3) := by decide +kernel
theorem dX11_setting_22 : decode cX11_setting 22 = .ok (.ldc2_w 265, 3) := by decide +kernel
theorem dX11_setting_25 : decode cX11_setting 25 = .ok (.lreturn, 1) := by decide +kernel
theorem dX11_setting_26 : decode cX11_setting 26 = .ok (.aload_n 0, 1) := by decide +kernel
theorem dX11_setting_27 : decode cX11_setting 27 = .ok (.getfield 52, 3) := by decide +kernel
theorem dX11_setting_30 : decode cX11_setting 30 = .ok (.iload_n 1, 1) := by decide +kernel
theorem dX11_setting_31 : decode cX11_setting 31 = .ok (.iload_n 2, 1) := by decide +kernel
theorem dX11_setting_32 : decode cX11_setting 32 = .ok (.invokevirtual 267, 3) := by decide +kernel
theorem dX11_setting_35 : decode cX11_setting 35 = .ok (.lreturn, 1) := by decide +kernel
theorem kd_X11_setting : aKd m_X11_setting 2 := ⟨wd_40_12, wd_1_2, ⟨by decide +kernel, by decide +kernel, by decide +kernel⟩⟩
set_option maxRecDepth 100000 in
set_option maxHeartbeats 4000000 in
theorem l_X11_setting_22   (σ : aSt) (o : Int64 × aSt) (h : f_X11_setting_22   σ = some o) : AW true m_X11_setting 22 [] [] σ 0 0 (some (.long o.1)) o.2 := by
  unfold f_X11_setting_22 at h
  refine w_ldc2 (v := (-1000001)) dX11_setting_22 wd_40_13 ?_
  obtain rfl := Option.some.inj h
  exact w_lreturn dX11_setting_25 rfl (Nat.le_of_ble_eq_true rfl) (Nat.le_of_ble_eq_true rfl)
set_option maxRecDepth 100000 in
set_option maxHeartbeats 4000000 in
theorem c_X11_setting (p1 : Int32) (p2 : Int32) (σ : aSt) (o : Int64 × aSt) (h : f_X11_setting p1 p2 σ = some o) : AM true m_X11_setting [va_rf (some (0)), .int (p1), .int (p2)] σ (some (.long o.1)) o.2 := by
  refine AM_of2 (lv := [(0, va_rf (some (0))), (1, Value.int (p1)), (2, Value.int (p2))]) (by decide +kernel) rfl (Nat.le_of_ble_eq_true rfl) ?_
  unfold f_X11_setting at h
  refine w_iload_n 1 dX11_setting_0 rfl rfl ?_
  refine w_iconst (v := 0) dX11_setting_1 (by decide) ?_
  refine w_sipush (v := 20000) dX11_setting_2 (by decide) ?_
  replace h := e_bind h; obtain ⟨q1, e2, h⟩ := h
  refine w_callS1 (M2 := m_X11_within) (av := [.int (p1), .int (0), .int (20000)]) (c_X11_within _ _ _ _ _ e2) dX11_setting_5 kd_X11_within wd_9_22 wd_9_23 rfl rfl ⟨Nat.le_of_ble_eq_true rfl, Nat.le_of_ble_eq_true rfl, Nat.le_of_ble_eq_true rfl, Nat.le_of_ble_eq_true rfl⟩ (Nat.le_of_ble_eq_true rfl) ?_
  refine w_if_eq 22 dX11_setting_8 (by decide) (fun c3 => ?_) (fun c3 => ?_)
  · replace h := e_t c3 h
    refine w_sub [] rfl ?_
    exact l_X11_setting_22 _ _ h
  · replace h := e_f c3 h
    refine w_iload_n 2 dX11_setting_11 rfl rfl ?_
    refine w_iload_n 1 dX11_setting_12 rfl rfl ?_
    refine w_sipush (v := 20000) dX11_setting_13 (by decide) ?_
    replace h := e_bind h; obtain ⟨q4, e5, h⟩ := h
    refine w_callS1 (M2 := m_X11_within) (av := [.int (p2), .int (p1), .int (20000)]) (c_X11_within _ _ _ _ _ e5) dX11_setting_16 kd_X11_within wd_9_22 wd_9_23 rfl rfl ⟨Nat.le_of_ble_eq_true rfl, Nat.le_of_ble_eq_true rfl, Nat.le_of_ble_eq_true rfl, Nat.le_of_ble_eq_true rfl⟩ (Nat.le_of_ble_eq_true rfl) ?_
    refine w_if_ne 26 dX11_setting_19 (by decide) (fun c6 => ?_) (fun c6 => ?_)
    · replace h := e_f c6 h
      refine w_aload_n 0 ((some (0))) dX11_setting_26 rfl rfl ?_
      refine w_get (v := va_rf (some 26)) dX11_setting_27 fl_RX11_52 ⟨rfl, Or.inr ⟨rfl, by decide⟩⟩ (aFv_k rfl) ?_
      refine w_iload_n 1 dX11_setting_30 rfl rfl ?_
      refine w_iload_n 2 dX11_setting_31 rfl rfl ?_
      replace h := e_bind h; obtain ⟨q7, e8, h⟩ := h
      refine w_callV1 (M2 := m_X5_priceOf) (av := [.int (p1), .int (p2)]) (ci := 5) (c_X5_priceOf _ _ _ _ e8) dX11_setting_32 kd_X5_priceOf wd_40_14 wd_40_15 wd_40_16 rfl rfl ⟨rfl, Or.inr ⟨rfl, by decide⟩⟩ rfl ⟨Nat.le_of_ble_eq_true rfl, Nat.le_of_ble_eq_true rfl, Nat.le_of_ble_eq_true rfl, Nat.le_of_ble_eq_true rfl⟩ (Nat.le_of_ble_eq_true rfl) ?_
      obtain rfl := Option.some.inj h
      exact w_lreturn dX11_setting_35 rfl (Nat.le_of_ble_eq_true rfl) (Nat.le_of_ble_eq_true rfl)
    · replace h := e_t c6 h
      refine w_sub [] rfl ?_
      exact l_X11_setting_22 _ _ h
theorem dX5_addThreshold_0 : decode cX5_addThreshold 0 = .ok (.aload_n 0, 1) := by decide +kernel
theorem dX5_addThreshold_1 : decode cX5_addThreshold 1 = .ok (.getfield 41, 3) := by decide +kernel
theorem dX5_addThreshold_4 : decode cX5_addThreshold 4 = .ok (.istore_n 2, 1) := by decide +kernel
theorem dX5_addThreshold_5 : decode cX5_addThreshold 5 = .ok (.iload_n 2, 1) := by decide +kernel
theorem dX5_addThreshold_6 : decode cX5_addThreshold 6 = .ok (.ifCond .le 21, 3) := by decide +kernel
theorem dX5_addThreshold_9 : decode cX5_addThreshold 9 = .ok (.aload_n 0, 1) := by decide +kernel
theorem dX5_addThreshold_10 : decode cX5_addThreshold 10 = .ok (.getfield 38, 3) := by decide +kernel
theorem dX5_addThreshold_13 : decode cX5_addThreshold 13 = .ok (.iload_n 2, 1) := by decide +kernel
theorem dX5_addThreshold_14 : decode cX5_addThreshold 14 = .ok (.iconst 1, 1) := by decide +kernel
theorem dX5_addThreshold_15 : decode cX5_addThreshold 15 = .ok (.isub, 1) := by decide +kernel
theorem dX5_addThreshold_16 : decode cX5_addThreshold 16 = .ok (.iaload, 1) := by decide +kernel
theorem dX5_addThreshold_17 : decode cX5_addThreshold 17 = .ok (.iload_n 1, 1) := by decide +kernel
theorem dX5_addThreshold_18 : decode cX5_addThreshold 18 = .ok (.if_icmp .le 9, 3) := by decide +kernel
theorem dX5_addThreshold_21 : decode cX5_addThreshold 21 = .ok (.iinc 2 (-1), 3) := by decide +kernel
theorem dX5_addThreshold_24 : decode cX5_addThreshold 24 = .ok (.goto (-19), 3) := by decide +kernel
theorem dX5_addThreshold_27 : decode cX5_addThreshold 27 = .ok (.iload_n 2, 1) := by decide +kernel
theorem dX5_addThreshold_28 : decode cX5_addThreshold 28 = .ok (.ifCond .le 19, 3) := by decide +kernel
theorem dX5_addThreshold_31 : decode cX5_addThreshold 31 = .ok (.aload_n 0, 1) := by decide +kernel
theorem dX5_addThreshold_32 : decode cX5_addThreshold 32 = .ok (.getfield 38, 3) := by decide +kernel
theorem dX5_addThreshold_35 : decode cX5_addThreshold 35 = .ok (.iload_n 2, 1) := by decide +kernel
theorem dX5_addThreshold_36 : decode cX5_addThreshold 36 = .ok (.iconst 1, 1) := by decide +kernel
theorem dX5_addThreshold_37 : decode cX5_addThreshold 37 = .ok (.isub, 1) := by decide +kernel
theorem dX5_addThreshold_38 : decode cX5_addThreshold 38 = .ok (.iaload, 1) := by decide +kernel
theorem dX5_addThreshold_39 : decode cX5_addThreshold 39 = .ok (.iload_n 1, 1) := by decide +kernel
theorem dX5_addThreshold_40 : decode cX5_addThreshold 40 = .ok (.if_icmp .ne 7, 3) := by decide +kernel
theorem dX5_addThreshold_43 : decode cX5_addThreshold 43 = .ok (.iconst 1, 1) := by decide +kernel
theorem dX5_addThreshold_44 : decode cX5_addThreshold 44 = .ok (.goto 4, 3) := by decide +kernel
theorem dX5_addThreshold_47 : decode cX5_addThreshold 47 = .ok (.iconst 0, 1) := by decide +kernel
theorem dX5_addThreshold_48 : decode cX5_addThreshold 48 = .ok (.istore_n 3, 1) := by decide +kernel
theorem dX5_addThreshold_49 : decode cX5_addThreshold 49 = .ok (.iload_n 3, 1) := by decide +kernel
theorem dX5_addThreshold_50 : decode cX5_addThreshold 50 = .ok (.ifCond .ne 12, 3) := by decide +kernel
theorem dX5_addThreshold_53 : decode cX5_addThreshold 53 = .ok (.aload_n 0, 1) := by decide +kernel
theorem dX5_addThreshold_54 : decode cX5_addThreshold 54 = .ok (.getfield 41, 3) := by decide +kernel
theorem dX5_addThreshold_57 : decode cX5_addThreshold 57 = .ok (.bipush 120, 2) := by decide +kernel
theorem dX5_addThreshold_59 : decode cX5_addThreshold 59 = .ok (.if_icmp .le 4, 3) := by decide +kernel
theorem dX5_addThreshold_62 : decode cX5_addThreshold 62 = .ok (.return_, 1) := by decide +kernel
theorem dX5_addThreshold_63 : decode cX5_addThreshold 63 = .ok (.aload_n 0, 1) := by decide +kernel
theorem dX5_addThreshold_64 : decode cX5_addThreshold 64 = .ok (.getfield 38, 3) := by decide +kernel
theorem dX5_addThreshold_67 : decode cX5_addThreshold 67 = .ok (.iload_n 2, 1) := by decide +kernel
theorem dX5_addThreshold_68 : decode cX5_addThreshold 68 = .ok (.aload_n 0, 1) := by decide +kernel
theorem dX5_addThreshold_69 : decode cX5_addThreshold 69 = .ok (.getfield 38, 3) := by decide +kernel
theorem dX5_addThreshold_72 : decode cX5_addThreshold 72 = .ok (.iload_n 2, 1) := by decide +kernel
theorem dX5_addThreshold_73 : decode cX5_addThreshold 73 = .ok (.iconst 1, 1) := by decide +kernel
theorem dX5_addThreshold_74 : decode cX5_addThreshold 74 = .ok (.iadd, 1) := by decide +kernel
theorem dX5_addThreshold_75 : decode cX5_addThreshold 75 = .ok (.aload_n 0, 1) := by decide +kernel
theorem dX5_addThreshold_76 : decode cX5_addThreshold 76 = .ok (.getfield 41, 3) := by decide +kernel
theorem dX5_addThreshold_79 : decode cX5_addThreshold 79 = .ok (.iload_n 2, 1) := by decide +kernel
theorem dX5_addThreshold_80 : decode cX5_addThreshold 80 = .ok (.isub, 1) := by decide +kernel
theorem dX5_addThreshold_81 : decode cX5_addThreshold 81 = .ok (.invokestatic 102, 3) := by decide +kernel
theorem dX5_addThreshold_84 : decode cX5_addThreshold 84 = .ok (.aload_n 0, 1) := by decide +kernel
theorem dX5_addThreshold_85 : decode cX5_addThreshold 85 = .ok (.getfield 38, 3) := by decide +kernel
theorem dX5_addThreshold_88 : decode cX5_addThreshold 88 = .ok (.iload_n 2, 1) := by decide +kernel
theorem dX5_addThreshold_89 : decode cX5_addThreshold 89 = .ok (.iload_n 1, 1) := by decide +kernel
theorem dX5_addThreshold_90 : decode cX5_addThreshold 90 = .ok (.iastore, 1) := by decide +kernel
theorem dX5_addThreshold_91 : decode cX5_addThreshold 91 = .ok (.aload_n 0, 1) := by decide +kernel
theorem dX5_addThreshold_92 : decode cX5_addThreshold 92 = .ok (.dup, 1) := by decide +kernel
theorem dX5_addThreshold_93 : decode cX5_addThreshold 93 = .ok (.getfield 41, 3) := by decide +kernel
theorem dX5_addThreshold_96 : decode cX5_addThreshold 96 = .ok (.iconst 1, 1) := by decide +kernel
theorem dX5_addThreshold_97 : decode cX5_addThreshold 97 = .ok (.iadd, 1) := by decide +kernel
theorem dX5_addThreshold_98 : decode cX5_addThreshold 98 = .ok (.putfield 41, 3) := by decide +kernel
theorem dX5_addThreshold_101 : decode cX5_addThreshold 101 = .ok (.return_, 1) := by decide +kernel
theorem kd_X5_addThreshold : aKd m_X5_addThreshold 1 := ⟨wd_42_21, wd_2_9, ⟨by decide +kernel, by decide +kernel, by decide +kernel⟩⟩
set_option maxRecDepth 100000 in
set_option maxHeartbeats 4000000 in
theorem l_X5_addThreshold_62   (σ : aSt) (o : Unit × aSt) (h : f_X5_addThreshold_62   σ = some o) : AW true m_X5_addThreshold 62 [] [] σ 0 0 none o.2 := by
  unfold f_X5_addThreshold_62 at h
  obtain rfl := Option.some.inj h
  exact w_vreturn dX5_addThreshold_62 rfl (Nat.le_of_ble_eq_true rfl) (Nat.le_of_ble_eq_true rfl)
set_option maxRecDepth 100000 in
set_option maxHeartbeats 4000000 in
theorem l_X5_addThreshold_48  (x1 : Int32) (x2 : Int32) (t0 : Int32) (σ : aSt) (o : Unit × aSt) (h : f_X5_addThreshold_48  x1 x2 t0 σ = some o) : AW true m_X5_addThreshold 48 [(0, va_rf (some (26))), (1, Value.int (x1)), (2, Value.int (x2))] [.int (t0)] σ 0 0 none o.2 := by
  unfold f_X5_addThreshold_48 at h
  refine w_istore_n dX5_addThreshold_48 rfl (by decide) rfl ?_
  refine w_iload_n 0 dX5_addThreshold_49 rfl rfl ?_
  refine w_if_ne 62 dX5_addThreshold_50 (by decide) (fun c1 => ?_) (fun c1 => ?_)
  · replace h := e_f c1 h
    refine w_sub [] rfl ?_
    exact l_X5_addThreshold_62 _ _ h
  · replace h := e_t c1 h
    refine w_aload_n 1 ((some (26))) dX5_addThreshold_53 rfl rfl ?_
    refine w_get dX5_addThreshold_54 fl_RX5_41 ⟨rfl, Or.inr ⟨rfl, by decide⟩⟩ (aFv_i rfl) ?_
    refine w_bipush (v := 120) dX5_addThreshold_57 (by decide) ?_
    refine w_icmp_le 63 dX5_addThreshold_59 (by decide) (fun c2 => ?_) (fun c2 => ?_)
    · replace h := e_t c2 h
      refine w_aload_n 1 ((some (26))) dX5_addThreshold_63 rfl rfl ?_
      refine w_get (v := va_rf (some 29)) dX5_addThreshold_64 fl_RX5_38 ⟨rfl, Or.inr ⟨rfl, by decide⟩⟩ (aFv_k rfl) ?_
      refine w_iload_n 3 dX5_addThreshold_67 rfl rfl ?_
      refine w_aload_n 1 ((some (26))) dX5_addThreshold_68 rfl rfl ?_
      refine w_get (v := va_rf (some 29)) dX5_addThreshold_69 fl_RX5_38 ⟨rfl, Or.inr ⟨rfl, by decide⟩⟩ (aFv_k rfl) ?_
      refine w_iload_n 3 dX5_addThreshold_72 rfl rfl ?_
      refine w_iconst (v := 1) dX5_addThreshold_73 (by decide) ?_
      refine w_iadd dX5_addThreshold_74 ?_
      refine w_aload_n 1 ((some (26))) dX5_addThreshold_75 rfl rfl ?_
      refine w_get dX5_addThreshold_76 fl_RX5_41 ⟨rfl, Or.inr ⟨rfl, by decide⟩⟩ (aFv_i rfl) ?_
      refine w_iload_n 3 dX5_addThreshold_79 rfl rfl ?_
      refine w_isub dX5_addThreshold_80 ?_
      replace h := e_grd h; obtain ⟨g3, h⟩ := h
      refine w_copy dX5_addThreshold_81 wd_42_22 wd_12_12 wd_12_13 wd_12_14 ⟨rfl, Or.inr ⟨rfl, by decide⟩⟩ ⟨rfl, Or.inr ⟨rfl, by decide⟩⟩ g3.1 g3.2.1 g3.2.2.1 g3.2.2.2.1 g3.2.2.2.2 (by decide) (by decide) ?_
      refine w_aload_n 1 ((some (26))) dX5_addThreshold_84 rfl rfl ?_
      refine w_get (v := va_rf (some 29)) dX5_addThreshold_85 fl_RX5_38 ⟨rfl, Or.inr ⟨rfl, by decide⟩⟩ (aFv_k rfl) ?_
      refine w_iload_n 3 dX5_addThreshold_88 rfl rfl ?_
      refine w_iload_n 2 dX5_addThreshold_89 rfl rfl ?_
      replace h := e_grd h; obtain ⟨b4, h⟩ := h
      refine w_iastore dX5_addThreshold_90 ⟨rfl, Or.inr ⟨rfl, by decide⟩⟩ b4 ?_
      refine w_aload_n 1 ((some (26))) dX5_addThreshold_91 rfl rfl ?_
      refine w_dup dX5_addThreshold_92 (aRf_cat _) ?_
      refine w_get dX5_addThreshold_93 fl_RX5_41 ⟨rfl, Or.inr ⟨rfl, by decide⟩⟩ (aFv_i rfl) ?_
      refine w_iconst (v := 1) dX5_addThreshold_96 (by decide) ?_
      refine w_iadd dX5_addThreshold_97 ?_
      refine w_putI dX5_addThreshold_98 fl_RX5_41 (Or.inl rfl) rfl ⟨rfl, Or.inr ⟨rfl, by decide⟩⟩ ?_
      obtain rfl := Option.some.inj h
      exact w_vreturn dX5_addThreshold_101 rfl (Nat.le_of_ble_eq_true rfl) (Nat.le_of_ble_eq_true rfl)
    · replace h := e_f c2 h
      refine w_sub [] rfl ?_
      exact l_X5_addThreshold_62 _ _ h
set_option maxRecDepth 100000 in
set_option maxHeartbeats 4000000 in
theorem l_X5_addThreshold_47  (x1 : Int32) (x2 : Int32) (σ : aSt) (o : Unit × aSt) (h : f_X5_addThreshold_47  x1 x2 σ = some o) : AW true m_X5_addThreshold 47 [(0, va_rf (some (26))), (1, Value.int (x1)), (2, Value.int (x2))] [] σ 0 0 none o.2 := by
  unfold f_X5_addThreshold_47 at h
  refine w_iconst (v := 0) dX5_addThreshold_47 (by decide) ?_
  exact l_X5_addThreshold_48 _ _ _ _ _ h
set_option maxRecDepth 100000 in
set_option maxHeartbeats 4000000 in
theorem l_X5_addThreshold_27  (x1 : Int32) (x2 : Int32) (σ : aSt) (o : Unit × aSt) (h : f_X5_addThreshold_27  x1 x2 σ = some o) : AW true m_X5_addThreshold 27 [(0, va_rf (some (26))), (1, Value.int (x1)), (2, Value.int (x2))] [] σ 0 0 none o.2 := by
  unfold f_X5_addThreshold_27 at h
  refine w_iload_n 2 dX5_addThreshold_27 rfl rfl ?_
  refine w_if_le 47 dX5_addThreshold_28 (by decide) (fun c5 => ?_) (fun c5 => ?_)
  · replace h := e_t c5 h
    exact l_X5_addThreshold_47 _ _ _ _ h
  · replace h := e_f c5 h
    refine w_aload_n 0 ((some (26))) dX5_addThreshold_31 rfl rfl ?_
    refine w_get (v := va_rf (some 29)) dX5_addThreshold_32 fl_RX5_38 ⟨rfl, Or.inr ⟨rfl, by decide⟩⟩ (aFv_k rfl) ?_
    refine w_iload_n 2 dX5_addThreshold_35 rfl rfl ?_
    refine w_iconst (v := 1) dX5_addThreshold_36 (by decide) ?_
    refine w_isub dX5_addThreshold_37 ?_
    replace h := e_grd h; obtain ⟨b6, h⟩ := h
    refine w_iaload dX5_addThreshold_38 ⟨rfl, Or.inr ⟨rfl, by decide⟩⟩ b6 ?_
    refine w_iload_n 1 dX5_addThreshold_39 rfl rfl ?_
    refine w_icmp_ne 47 dX5_addThreshold_40 (by decide) (fun c7 => ?_) (fun c7 => ?_)
    · replace h := e_f c7 h
      exact l_X5_addThreshold_47 _ _ _ _ h
    · replace h := e_t c7 h
      refine w_iconst (v := 1) dX5_addThreshold_43 (by decide) ?_
      refine w_goto 48 dX5_addThreshold_44 (by decide) ?_
      exact l_X5_addThreshold_48 _ _ _ _ _ h
set_option maxRecDepth 100000 in
set_option maxHeartbeats 4000000 in
theorem l_X5_addThreshold_5_b (rec5 : Int32 → Int32 → aSt → Option (Unit × aSt)) (hrec5 : ∀ (x1 : Int32) (x2 : Int32) (σ : aSt) (o : Unit × aSt), rec5 x1 x2 σ = some o → AW true m_X5_addThreshold 5 [(0, va_rf (some (26))), (1, Value.int (x1)), (2, Value.int (x2))] [] σ 0 0 none o.2) (x1 : Int32) (x2 : Int32) (σ : aSt) (o : Unit × aSt) (h : f_X5_addThreshold_5_b rec5 x1 x2 σ = some o) : AW true m_X5_addThreshold 5 [(0, va_rf (some (26))), (1, Value.int (x1)), (2, Value.int (x2))] [] σ 0 0 none o.2 := by
  unfold f_X5_addThreshold_5_b at h
  refine w_iload_n 2 dX5_addThreshold_5 rfl rfl ?_
  refine w_if_le 27 dX5_addThreshold_6 (by decide) (fun c8 => ?_) (fun c8 => ?_)
  · replace h := e_t c8 h
    exact l_X5_addThreshold_27 _ _ _ _ h
  · replace h := e_f c8 h
    refine w_aload_n 0 ((some (26))) dX5_addThreshold_9 rfl rfl ?_
    refine w_get (v := va_rf (some 29)) dX5_addThreshold_10 fl_RX5_38 ⟨rfl, Or.inr ⟨rfl, by decide⟩⟩ (aFv_k rfl) ?_
    refine w_iload_n 2 dX5_addThreshold_13 rfl rfl ?_
    refine w_iconst (v := 1) dX5_addThreshold_14 (by decide) ?_
    refine w_isub dX5_addThreshold_15 ?_
    replace h := e_grd h; obtain ⟨b9, h⟩ := h
    refine w_iaload dX5_addThreshold_16 ⟨rfl, Or.inr ⟨rfl, by decide⟩⟩ b9 ?_
    refine w_iload_n 1 dX5_addThreshold_17 rfl rfl ?_
    refine w_icmp_le 27 dX5_addThreshold_18 (by decide) (fun c10 => ?_) (fun c10 => ?_)
    · replace h := e_t c10 h
      exact l_X5_addThreshold_27 _ _ _ _ h
    · replace h := e_f c10 h
      refine w_iinc (q := 2) (v := x2 + (-1)) dX5_addThreshold_21 rfl rfl (by decide) rfl ?_
      refine w_goto 5 dX5_addThreshold_24 (by decide) ?_
      refine w_sub [1, 2, 0] rfl ?_
      exact hrec5 _ _ _ _ h
theorem l_X5_addThreshold_5  : ∀ (n : Nat) (x1 : Int32) (x2 : Int32) (σ : aSt) (o : Unit × aSt), f_X5_addThreshold_5  n x1 x2 σ = some o → AW true m_X5_addThreshold 5 [(0, va_rf (some (26))), (1, Value.int (x1)), (2, Value.int (x2))] [] σ 0 0 none o.2
  | 0 => fun x1 x2 σ o h => by cases h
  | n + 1 => fun x1 x2 σ o h => l_X5_addThreshold_5_b (f_X5_addThreshold_5  n) (l_X5_addThreshold_5  n) x1 x2 σ o h
set_option maxRecDepth 100000 in
set_option maxHeartbeats 4000000 in
theorem c_X5_addThreshold (p1 : Int32) (σ : aSt) (o : Unit × aSt) (h : f_X5_addThreshold p1 σ = some o) : AM true m_X5_addThreshold [va_rf (some (26)), .int (p1)] σ none o.2 := by
  refine AM_of2 (lv := [(0, va_rf (some (26))), (1, Value.int (p1))]) (by decide +kernel) rfl (Nat.le_of_ble_eq_true rfl) ?_
  unfold f_X5_addThreshold at h
  refine w_aload_n 0 ((some (26))) dX5_addThreshold_0 rfl rfl ?_
  refine w_get dX5_addThreshold_1 fl_RX5_41 ⟨rfl, Or.inr ⟨rfl, by decide⟩⟩ (aFv_i rfl) ?_
  refine w_istore_n dX5_addThreshold_4 rfl (by decide) rfl ?_
  refine w_sub [1, 2, 0] rfl ?_
  exact l_X5_addThreshold_5 aN _ _ _ _ h
theorem dX5_findThresholds_0 : decode cX5_findThresholds 0 = .ok (.aload_n 0, 1) := by decide +kernel
theorem dX5_findThresholds_1 : decode cX5_findThresholds 1 = .ok (.getfield 38, 3) := by decide +kernel
theorem dX5_findThresholds_4 : decode cX5_findThresholds 4 = .ok (.iconst 0, 1) := by decide +kernel
theorem dX5_findThresholds_5 : decode cX5_findThresholds 5 = .ok (.iconst 0, 1) := by decide +kernel
theorem dX5_findThresholds_6 : decode cX5_findThresholds 6 = .ok (.iastore, 1) := by decide +kernel
theorem dX5_findThresholds_7 : decode cX5_findThresholds 7 = .ok (.aload_n 0, 1) := by decide +kernel
theorem dX5_findThresholds_8 : decode cX5_findThresholds 8 = .ok (.iconst 1, 1) := by decide +kernel
theorem dX5_findThresholds_9 : decode cX5_findThresholds 9 = .ok (.putfield 41, 3) := by decide +kernel
theorem dX5_findThresholds_12 : decode cX5_findThresholds 12 = .ok (.iconst 0, 1) := by decide +kernel
theorem dX5_findThresholds_13 : decode cX5_findThresholds 13 = .ok (.istore_n 1, 1) := by decide +kernel
theorem dX5_findThresholds_14 : decode cX5_findThresholds 14 = .ok (.iload_n 1, 1) := by decide +kernel
theorem dX5_findThresholds_15 : decode cX5_findThresholds 15 = .ok (.aload_n 0, 1) := by decide +kernel
theorem dX5_findThresholds_16 : decode cX5_findThresholds 16 = .ok (.getfield 35, 3) := by decide +kernel
theorem dX5_findThresholds_19 : decode cX5_findThresholds 19 = .ok (.if_icmp .ge 21, 3) := by decide +kernel
theorem dX5_findThresholds_22 : decode cX5_findThresholds 22 = .ok (.aload_n 0, 1) := by decide +kernel
theorem dX5_findThresholds_23 : decode cX5_findThresholds 23 = .ok (.aload_n 0, 1) := by decide +kernel
theorem dX5_findThresholds_24 : decode cX5_findThresholds 24 = .ok (.getfield 28, 3) := by decide +kernel
theorem dX5_findThresholds_27 : decode cX5_findThresholds 27 = .ok (.iload_n 1, 1) := by decide +kernel
theorem dX5_findThresholds_28 : decode cX5_findThresholds 28 = .ok (.iaload, 1) := by decide +kernel
theorem dX5_findThresholds_29 : decode cX5_findThresholds 29 = .ok (.iconst 1, 1) := by decide +kernel
theorem dX5_findThresholds_30 : decode cX5_findThresholds 30 = .ok (.iadd, 1) := by decide +kernel
theorem dX5_findThresholds_31 : decode cX5_findThresholds 31 = .ok (.invokevirtual 98, 3) := by decide +kernel
theorem dX5_findThresholds_34 : decode cX5_findThresholds 34 = .ok (.iinc 1 1, 3) := by decide +kernel
theorem dX5_findThresholds_37 : decode cX5_findThresholds 37 = .ok (.goto (-23), 3) := by decide +kernel
theorem dX5_findThresholds_40 : decode cX5_findThresholds 40 = .ok (.return_, 1) := by decide +kernel
theorem kd_X5_findThresholds : aKd m_X5_findThresholds 0 := ⟨wd_42_17, wd_2_9, ⟨by decide +kernel, by decide +kernel, by decide +kernel⟩⟩
set_option maxRecDepth 100000 in
set_option maxHeartbeats 4000000 in
theorem l_X5_findThresholds_14_b (rec14 : Int32 → aSt → Option (Unit × aSt)) (hrec14 : ∀ (x1 : Int32) (σ : aSt) (o : Unit × aSt), rec14 x1 σ = some o → AW true m_X5_findThresholds 14 [(0, va_rf (some (26))), (1, Value.int (x1))] [] σ 0 0 none o.2) (x1 : Int32) (σ : aSt) (o : Unit × aSt) (h : f_X5_findThresholds_14_b rec14 x1 σ = some o) : AW true m_X5_findThresholds 14 [(0, va_rf (some (26))), (1, Value.int (x1))] [] σ 0 0 none o.2 := by
  unfold f_X5_findThresholds_14_b at h
  refine w_iload_n 1 dX5_findThresholds_14 rfl rfl ?_
  refine w_aload_n 0 ((some (26))) dX5_findThresholds_15 rfl rfl ?_
  refine w_get dX5_findThresholds_16 fl_RX5_35 ⟨rfl, Or.inr ⟨rfl, by decide⟩⟩ (aFv_i rfl) ?_
  refine w_icmp_ge 40 dX5_findThresholds_19 (by decide) (fun c2 => ?_) (fun c2 => ?_)
  · replace h := e_t c2 h
    obtain rfl := Option.some.inj h
    exact w_vreturn dX5_findThresholds_40 rfl (Nat.le_of_ble_eq_true rfl) (Nat.le_of_ble_eq_true rfl)
  · replace h := e_f c2 h
    refine w_aload_n 0 ((some (26))) dX5_findThresholds_22 rfl rfl ?_
    refine w_aload_n 0 ((some (26))) dX5_findThresholds_23 rfl rfl ?_
    refine w_get (v := va_rf (some 27)) dX5_findThresholds_24 fl_RX5_28 ⟨rfl, Or.inr ⟨rfl, by decide⟩⟩ (aFv_k rfl) ?_
    refine w_iload_n 1 dX5_findThresholds_27 rfl rfl ?_
    replace h := e_grd h; obtain ⟨b3, h⟩ := h
    refine w_iaload dX5_findThresholds_28 ⟨rfl, Or.inr ⟨rfl, by decide⟩⟩ b3 ?_
    refine w_iconst (v := 1) dX5_findThresholds_29 (by decide) ?_
    refine w_iadd dX5_findThresholds_30 ?_
    replace h := e_bind h; obtain ⟨q4, e5, h⟩ := h
    refine w_callV0 (M2 := m_X5_addThreshold) (av := [.int ((gI σ 27 x1.toNatClampNeg) + 1)]) (ci := 5) (c_X5_addThreshold _ _ _ e5) dX5_findThresholds_31 kd_X5_addThreshold wd_42_18 wd_42_19 wd_42_20 rfl rfl ⟨rfl, Or.inr ⟨rfl, by decide⟩⟩ rfl ⟨Nat.le_of_ble_eq_true rfl, Nat.le_of_ble_eq_true rfl, Nat.le_of_ble_eq_true rfl, Nat.le_of_ble_eq_true rfl⟩ (Nat.le_of_ble_eq_true rfl) ?_
    refine w_iinc (q := 1) (v := x1 + 1) dX5_findThresholds_34 rfl rfl (by decide) rfl ?_
    refine w_goto 14 dX5_findThresholds_37 (by decide) ?_
    refine w_sub [1, 0] rfl ?_
    exact hrec14 _ _ _ h
theorem l_X5_findThresholds_14  : ∀ (n : Nat) (x1 : Int32) (σ : aSt) (o : Unit × aSt), f_X5_findThresholds_14  n x1 σ = some o → AW true m_X5_findThresholds 14 [(0, va_rf (some (26))), (1, Value.int (x1))] [] σ 0 0 none o.2
  | 0 => fun x1 σ o h => by cases h
  | n + 1 => fun x1 σ o h => l_X5_findThresholds_14_b (f_X5_findThresholds_14  n) (l_X5_findThresholds_14  n) x1 σ o h
set_option maxRecDepth 100000 in
set_option maxHeartbeats 4000000 in
theorem c_X5_findThresholds  (σ : aSt) (o : Unit × aSt) (h : f_X5_findThresholds  σ = some o) : AM true m_X5_findThresholds [va_rf (some (26))] σ none o.2 := by
  refine AM_of2 (lv := [(0, va_rf (some (26)))]) (by decide +kernel) rfl (Nat.le_of_ble_eq_true rfl) ?_
  unfold f_X5_findThresholds at h
  refine w_aload_n 0 ((some (26))) dX5_findThresholds_0 rfl rfl ?_
  refine w_get (v := va_rf (some 29)) dX5_findThresholds_1 fl_RX5_38 ⟨rfl, Or.inr ⟨rfl, by decide⟩⟩ (aFv_k rfl) ?_
  refine w_iconst (v := 0) dX5_findThresholds_4 (by decide) ?_
  refine w_iconst (v := 0) dX5_findThresholds_5 (by decide) ?_
  refine w_iastore dX5_findThresholds_6 ⟨rfl, Or.inr ⟨rfl, by decide⟩⟩ (by decide) ?_
  refine w_aload_n 0 ((some (26))) dX5_findThresholds_7 rfl rfl ?_
  refine w_iconst (v := 1) dX5_findThresholds_8 (by decide) ?_
  refine w_putI dX5_findThresholds_9 fl_RX5_41 (Or.inl rfl) rfl ⟨rfl, Or.inr ⟨rfl, by decide⟩⟩ ?_
  refine w_iconst (v := 0) dX5_findThresholds_12 (by decide) ?_
  refine w_istore_n dX5_findThresholds_13 rfl (by decide) rfl ?_
  refine w_sub [1, 0] rfl ?_
  exact l_X5_findThresholds_14 aN _ _ _ h
theorem dX5_findBest_0 : decode cX5_findBest 0 = .ok (.aload_n 0, 1) := by decide +kernel
theorem dX5_findBest_1 : decode cX5_findBest 1 = .ok (.invokevirtual 57, 3) := by decide +kernel
theorem dX5_findBest_4 : decode cX5_findBest 4 = .ok (.aload_n 0, 1) := by decide +kernel
theorem dX5_findBest_5 : decode cX5_findBest 5 = .ok (.invokevirtual 67, 3) := by decide +kernel
theorem dX5_findBest_8 : decode cX5_findBest 8 = .ok (.aload_n 0, 1) := by decide +kernel
theorem dX5_findBest_9 : decode cX5_findBest 9 = .ok (.getfield 38, 3) := by decide +kernel
theorem dX5_findBest_12 : decode cX5_findBest 12 = .ok (.aload_n 0, 1) := by decide +kernel
theorem dX5_findBest_13 : decode cX5_findBest 13 = .ok (.getfield 41, 3) := by decide +kernel
theorem dX5_findBest_16 : decode cX5_findBest 16 = .ok (.iconst 1, 1) := by decide +kernel
theorem dX5_findBest_17 : decode cX5_findBest 17 = .ok (.isub, 1) := by decide +kernel
theorem dX5_findBest_18 : decode cX5_findBest 18 = .ok (.iaload, 1) := by decide +kernel
theorem dX5_findBest_19 : decode cX5_findBest 19 = .ok (.istore_n 1, 1) := by decide +kernel
theorem dX5_findBest_20 : decode cX5_findBest 20 = .ok (.aload_n 0, 1) := by decide +kernel
theorem dX5_findBest_21 : decode cX5_findBest 21 = .ok (.iload_n 1, 1) := by decide +kernel
theorem dX5_findBest_22 : decode cX5_findBest 22 = .ok (.invokevirtual 64, 3) := by decide +kernel
theorem dX5_findBest_25 : decode cX5_findBest 25 = .ok (.lstore_n 2, 1) := by decide +kernel
theorem dX5_findBest_26 : decode cX5_findBest 26 = .ok (.aload_n 0, 1) := by decide +kernel
theorem dX5_findBest_27 : decode cX5_findBest 27 = .ok (.ldc2_w 72, 3) := by decide +kernel
theorem dX5_findBest_30 : decode cX5_findBest 30 = .ok (.putfield 24, 3) := by decide +kernel
theorem dX5_findBest_33 : decode cX5_findBest 33 = .ok (.aload_n 0, 1) := by decide +kernel
theorem dX5_findBest_34 : decode cX5_findBest 34 = .ok (.getfield 41, 3) := by decide +kernel
theorem dX5_findBest_37 : decode cX5_findBest 37 = .ok (.iconst 1, 1) := by decide +kernel
theorem dX5_findBest_38 : decode cX5_findBest 38 = .ok (.isub, 1) := by decide +kernel
theorem dX5_findBest_39 : decode cX5_findBest 39 = .ok (.istore 4, 2) := by decide +kernel
theorem dX5_findBest_41 : decode cX5_findBest 41 = .ok (.iload 4, 2) := by decide +kernel
theorem dX5_findBest_43 : decode cX5_findBest 43 = .ok (.ifCond .lt 78, 3) := by decide +kernel
theorem dX5_findBest_46 : decode cX5_findBest 46 = .ok (.aload_n 0, 1) := by decide +kernel
theorem dX5_findBest_47 : decode cX5_findBest 47 = .ok (.getfield 38, 3) := by decide +kernel
theorem dX5_findBest_50 : decode cX5_findBest 50 = .ok (.iload 4, 2) := by decide +kernel
theorem dX5_findBest_52 : decode cX5_findBest 52 = .ok (.iaload, 1) := by decide +kernel
theorem dX5_findBest_53 : decode cX5_findBest 53 = .ok (.istore 5, 2) := by decide +kernel
theorem dX5_findBest_55 : decode cX5_findBest 55 = .ok (.aload_n 0, 1) := by decide +kernel
theorem dX5_findBest_56 : decode cX5_findBest 56 = .ok (.iload 5, 2) := by decide +kernel
theorem dX5_findBest_58 : decode cX5_findBest 58 = .ok (.invokevirtual 60, 3) := by decide +kernel
theorem dX5_findBest_61 : decode cX5_findBest 61 = .ok (.lstore 6, 2) := by decide +kernel
theorem dX5_findBest_63 : decode cX5_findBest 63 = .ok (.aload_n 0, 1) := by decide +kernel
theorem dX5_findBest_64 : decode cX5_findBest 64 = .ok (.iload 5, 2) := by decide +kernel
theorem dX5_findBest_66 : decode cX5_findBest 66 = .ok (.invokevirtual 64, 3) := by decide +kernel
theorem dX5_findBest_69 : decode cX5_findBest 69 = .ok (.lstore 8, 2) := by decide +kernel
theorem dX5_findBest_71 : decode cX5_findBest 71 = .ok (.lload 8, 2) := by decide +kernel
theorem dX5_findBest_73 : decode cX5_findBest 73 = .ok (.lload_n 2, 1) := by decide +kernel
theorem dX5_findBest_74 : decode cX5_findBest 74 = .ok (.lcmp, 1) := by decide +kernel
theorem dX5_findBest_75 : decode cX5_findBest 75 = .ok (.ifCond .gt 9, 3) := by decide +kernel
theorem dX5_findBest_78 : decode cX5_findBest 78 = .ok (.iload 5, 2) := by decide +kernel
theorem dX5_findBest_80 : decode cX5_findBest 80 = .ok (.istore_n 1, 1) := by decide +kernel
theorem dX5_findBest_81 : decode cX5_findBest 81 = .ok (.lload 8, 2) := by decide +kernel
theorem dX5_findBest_83 : decode cX5_findBest 83 = .ok (.lstore_n 2, 1) := by decide +kernel
theorem dX5_findBest_84 : decode cX5_findBest 84 = .ok (.lload 6, 2) := by decide +kernel
theorem dX5_findBest_86 : decode cX5_findBest 86 = .ok (.lload_n 2, 1) := by decide +kernel
theorem dX5_findBest_87 : decode cX5_findBest 87 = .ok (.ladd, 1) := by decide +kernel
theorem dX5_findBest_88 : decode cX5_findBest 88 = .ok (.aload_n 0, 1) := by decide +kernel
theorem dX5_findBest_89 : decode cX5_findBest 89 = .ok (.getfield 24, 3) := by decide +kernel
theorem dX5_findBest_92 : decode cX5_findBest 92 = .ok (.lcmp, 1) := by decide +kernel
theorem dX5_findBest_93 : decode cX5_findBest 93 = .ok (.ifCond .gt 22, 3) := by decide +kernel
theorem dX5_findBest_96 : decode cX5_findBest 96 = .ok (.aload_n 0, 1) := by decide +kernel
theorem dX5_findBest_97 : decode cX5_findBest 97 = .ok (.lload 6, 2) := by decide +kernel
theorem dX5_findBest_99 : decode cX5_findBest 99 = .ok (.lload_n 2, 1) := by decide +kernel
theorem dX5_findBest_100 : decode cX5_findBest 100 = .ok (.ladd, 1) := by decide +kernel
theorem dX5_findBest_101 : decode cX5_findBest 101 = .ok (.putfield 24, 3) := by decide +kernel
theorem dX5_findBest_104 : decode cX5_findBest 104 = .ok (.aload_n 0, 1) := by decide +kernel
theorem dX5_findBest_105 : decode cX5_findBest 105 = .ok (.iload 5, 2) := by decide +kernel
theorem dX5_findBest_107 : decode cX5_findBest 107 = .ok (.putfield 18, 3) := by decide +kernel
theorem dX5_findBest_110 : decode cX5_findBest 110 = .ok (.aload_n 0, 1) := by decide +kernel
theorem dX5_findBest_111 : decode cX5_findBest 111 = .ok (.iload_n 1, 1) := by decide +kernel
theorem dX5_findBest_112 : decode cX5_findBest 112 = .ok (.putfield 21, 3) := by decide +kernel
theorem dX5_findBest_115 : decode cX5_findBest 115 = .ok (.iinc 4 (-1), 3) := by decide +kernel
theorem dX5_findBest_118 : decode cX5_findBest 118 = .ok (.goto (-77), 3) := by decide +kernel
theorem dX5_findBest_121 : decode cX5_findBest 121 = .ok (.return_, 1) := by decide +kernel
theorem kd_X5_findBest : aKd m_X5_findBest 0 := ⟨wd_42_12, wd_2_9, ⟨by decide +kernel, by decide +kernel, by decide +kernel⟩⟩
set_option maxRecDepth 100000 in
set_option maxHeartbeats 4000000 in
theorem l_X5_findBest_115 (rec41 : Int32 → Int64 → Int32 → aSt → Option (Unit × aSt)) (hrec41 : ∀ (x1 : Int32) (x2 : Int64) (x4 : Int32) (σ : aSt) (o : Unit × aSt), rec41 x1 x2 x4 σ = some o → AW true m_X5_findBest 41 [(0, va_rf (some (26))), (1, Value.int (x1)), (2, Value.long (x2)), (4, Value.int (x4))] [] σ 0 0 none o.2) (x1 : Int32) (x2 : Int64) (x4 : Int32) (σ : aSt) (o : Unit × aSt) (h : f_X5_findBest_115 rec41 x1 x2 x4 σ = some o) : AW true m_X5_findBest 115 [(0, va_rf (some (26))), (1, Value.int (x1)), (2, Value.long (x2)), (4, Value.int (x4))] [] σ 0 0 none o.2 := by
  unfold f_X5_findBest_115 at h
  refine w_iinc (q := 3) (v := x4 + (-1)) dX5_findBest_115 rfl rfl (by decide) rfl ?_
  refine w_goto 41 dX5_findBest_118 (by decide) ?_
  refine w_sub [1, 2, 3, 0] rfl ?_
  exact hrec41 _ _ _ _ _ h
set_option maxRecDepth 100000 in
set_option maxHeartbeats 4000000 in
theorem l_X5_findBest_84 (rec41 : Int32 → Int64 → Int32 → aSt → Option (Unit × aSt)) (hrec41 : ∀ (x1 : Int32) (x2 : Int64) (x4 : Int32) (σ : aSt) (o : Unit × aSt), rec41 x1 x2 x4 σ = some o → AW true m_X5_findBest 41 [(0, va_rf (some (26))), (1, Value.int (x1)), (2, Value.long (x2)), (4, Value.int (x4))] [] σ 0 0 none o.2) (x1 : Int32) (x2 : Int64) (x4 : Int32) (x5 : Int32) (x6 : Int64) (σ : aSt) (o : Unit × aSt) (h : f_X5_findBest_84 rec41 x1 x2 x4 x5 x6 σ = some o) : AW true m_X5_findBest 84 [(0, va_rf (some (26))), (1, Value.int (x1)), (2, Value.long (x2)), (4, Value.int (x4)), (5, Value.int (x5)), (6, Value.long (x6))] [] σ 0 0 none o.2 := by
  unfold f_X5_findBest_84 at h
  refine w_lload 5 dX5_findBest_84 rfl ?_
  refine w_lload_n 2 dX5_findBest_86 rfl rfl ?_
  refine w_ladd dX5_findBest_87 ?_
  refine w_aload_n 0 ((some (26))) dX5_findBest_88 rfl rfl ?_
  refine w_get dX5_findBest_89 fl_RX5_24 ⟨rfl, Or.inr ⟨rfl, by decide⟩⟩ (aFv_l rfl) ?_
  refine w_lcmp dX5_findBest_92 ?_
  refine w_if_gt 115 dX5_findBest_93 (by decide) (fun c8 => ?_) (fun c8 => ?_)
  · replace h := e_t c8 h
    refine w_sub [0, 1, 2, 3] rfl ?_
    exact l_X5_findBest_115 rec41 hrec41 _ _ _ _ _ h
  · replace h := e_f c8 h
    refine w_aload_n 0 ((some (26))) dX5_findBest_96 rfl rfl ?_
    refine w_lload 5 dX5_findBest_97 rfl ?_
    refine w_lload_n 2 dX5_findBest_99 rfl rfl ?_
    refine w_ladd dX5_findBest_100 ?_
    refine w_putL dX5_findBest_101 fl_RX5_24 (Or.inl rfl) rfl ⟨rfl, Or.inr ⟨rfl, by decide⟩⟩ ?_
    refine w_aload_n 0 ((some (26))) dX5_findBest_104 rfl rfl ?_
    refine w_iload 4 dX5_findBest_105 rfl ?_
    refine w_putI dX5_findBest_107 fl_RX5_18 (Or.inl rfl) rfl ⟨rfl, Or.inr ⟨rfl, by decide⟩⟩ ?_
    refine w_aload_n 0 ((some (26))) dX5_findBest_110 rfl rfl ?_
    refine w_iload_n 1 dX5_findBest_111 rfl rfl ?_
    refine w_putI dX5_findBest_112 fl_RX5_21 (Or.inl rfl) rfl ⟨rfl, Or.inr ⟨rfl, by decide⟩⟩ ?_
    refine w_sub [0, 1, 2, 3] rfl ?_
    exact l_X5_findBest_115 rec41 hrec41 _ _ _ _ _ h
set_option maxRecDepth 100000 in
set_option maxHeartbeats 4000000 in
theorem l_X5_findBest_41_b (rec41 : Int32 → Int64 → Int32 → aSt → Option (Unit × aSt)) (hrec41 : ∀ (x1 : Int32) (x2 : Int64) (x4 : Int32) (σ : aSt) (o : Unit × aSt), rec41 x1 x2 x4 σ = some o → AW true m_X5_findBest 41 [(0, va_rf (some (26))), (1, Value.int (x1)), (2, Value.long (x2)), (4, Value.int (x4))] [] σ 0 0 none o.2) (x1 : Int32) (x2 : Int64) (x4 : Int32) (σ : aSt) (o : Unit × aSt) (h : f_X5_findBest_41_b rec41 x1 x2 x4 σ = some o) : AW true m_X5_findBest 41 [(0, va_rf (some (26))), (1, Value.int (x1)), (2, Value.long (x2)), (4, Value.int (x4))] [] σ 0 0 none o.2 := by
  unfold f_X5_findBest_41_b at h
  refine w_iload 3 dX5_findBest_41 rfl ?_
  refine w_if_lt 121 dX5_findBest_43 (by decide) (fun c9 => ?_) (fun c9 => ?_)
  · replace h := e_t c9 h
    obtain rfl := Option.some.inj h
    exact w_vreturn dX5_findBest_121 rfl (Nat.le_of_ble_eq_true rfl) (Nat.le_of_ble_eq_true rfl)
  · replace h := e_f c9 h
    refine w_aload_n 0 ((some (26))) dX5_findBest_46 rfl rfl ?_
    refine w_get (v := va_rf (some 29)) dX5_findBest_47 fl_RX5_38 ⟨rfl, Or.inr ⟨rfl, by decide⟩⟩ (aFv_k rfl) ?_
    refine w_iload 3 dX5_findBest_50 rfl ?_
    replace h := e_grd h; obtain ⟨b10, h⟩ := h
    refine w_iaload dX5_findBest_52 ⟨rfl, Or.inr ⟨rfl, by decide⟩⟩ b10 ?_
    refine w_istore dX5_findBest_53 (by decide) rfl ?_
    refine w_aload_n 1 ((some (26))) dX5_findBest_55 rfl rfl ?_
    refine w_iload 0 dX5_findBest_56 rfl ?_
    replace h := e_bind h; obtain ⟨q11, e12, h⟩ := h
    refine w_callV1 (M2 := m_X5_lookPart) (av := [.int (gI σ 29 x4.toNatClampNeg)]) (ci := 5) (c_X5_lookPart _ _ _ e12) dX5_findBest_58 kd_X5_lookPart wd_41_4 wd_41_5 wd_41_6 rfl rfl ⟨rfl, Or.inr ⟨rfl, by decide⟩⟩ rfl ⟨Nat.le_of_ble_eq_true rfl, Nat.le_of_ble_eq_true rfl, Nat.le_of_ble_eq_true rfl, Nat.le_of_ble_eq_true rfl⟩ (Nat.le_of_ble_eq_true rfl) ?_
    refine w_lstore dX5_findBest_61 (by decide) rfl ?_
    refine w_aload_n 2 ((some (26))) dX5_findBest_63 rfl rfl ?_
    refine w_iload 1 dX5_findBest_64 rfl ?_
    replace h := e_bind h; obtain ⟨q13, e14, h⟩ := h
    refine w_callV1 (M2 := m_X5_blockPart) (av := [.int (gI σ 29 x4.toNatClampNeg)]) (ci := 5) (c_X5_blockPart _ _ _ e14) dX5_findBest_66 kd_X5_blockPart wd_41_8 wd_41_9 wd_41_10 rfl rfl ⟨rfl, Or.inr ⟨rfl, by decide⟩⟩ rfl ⟨Nat.le_of_ble_eq_true rfl, Nat.le_of_ble_eq_true rfl, Nat.le_of_ble_eq_true rfl, Nat.le_of_ble_eq_true rfl⟩ (Nat.le_of_ble_eq_true rfl) ?_
    refine w_lstore dX5_findBest_69 (by decide) rfl ?_
    refine w_lload 0 dX5_findBest_71 rfl ?_
    refine w_lload_n 5 dX5_findBest_73 rfl rfl ?_
    refine w_lcmp dX5_findBest_74 ?_
    refine w_if_gt 84 dX5_findBest_75 (by decide) (fun c15 => ?_) (fun c15 => ?_)
    · replace h := e_t c15 h
      refine w_sub [3, 4, 5, 6, 2, 1] rfl ?_
      exact l_X5_findBest_84 rec41 hrec41 _ _ _ _ _ _ _ h
    · replace h := e_f c15 h
      refine w_iload 2 dX5_findBest_78 rfl ?_
      refine w_istore_n dX5_findBest_80 rfl (by decide) rfl ?_
      refine w_lload 1 dX5_findBest_81 rfl ?_
      refine w_lstore_n dX5_findBest_83 rfl (by decide) rfl ?_
      refine w_sub [5, 1, 0, 6, 4, 3] rfl ?_
      exact l_X5_findBest_84 rec41 hrec41 _ _ _ _ _ _ _ h
theorem l_X5_findBest_41  : ∀ (n : Nat) (x1 : Int32) (x2 : Int64) (x4 : Int32) (σ : aSt) (o : Unit × aSt), f_X5_findBest_41  n x1 x2 x4 σ = some o → AW true m_X5_findBest 41 [(0, va_rf (some (26))), (1, Value.int (x1)), (2, Value.long (x2)), (4, Value.int (x4))] [] σ 0 0 none o.2
  | 0 => fun x1 x2 x4 σ o h => by cases h
  | n + 1 => fun x1 x2 x4 σ o h => l_X5_findBest_41_b (f_X5_findBest_41  n) (l_X5_findBest_41  n) x1 x2 x4 σ o h
set_option maxRecDepth 100000 in
set_option maxHeartbeats 4000000 in
theorem c_X5_findBest  (σ : aSt) (o : Unit × aSt) (h : f_X5_findBest  σ = some o) : AM true m_X5_findBest [va_rf (some (26))] σ none o.2 := by
  refine AM_of2 (lv := [(0, va_rf (some (26)))]) (by decide +kernel) rfl (Nat.le_of_ble_eq_true rfl) ?_
  unfold f_X5_findBest at h
  refine w_aload_n 0 ((some (26))) dX5_findBest_0 rfl rfl ?_
  replace h := e_bind h; obtain ⟨q1, e2, h⟩ := h
  refine w_callV0 (M2 := m_X5_rate) (av := []) (ci := 5) (c_X5_rate  _ _ e2) dX5_findBest_1 kd_X5_rate wd_40_18 wd_40_19 wd_40_20 rfl rfl ⟨rfl, Or.inr ⟨rfl, by decide⟩⟩ rfl ⟨Nat.le_of_ble_eq_true rfl, Nat.le_of_ble_eq_true rfl, Nat.le_of_ble_eq_true rfl, Nat.le_of_ble_eq_true rfl⟩ (Nat.le_of_ble_eq_true rfl) ?_
  refine w_aload_n 0 ((some (26))) dX5_findBest_4 rfl rfl ?_
  replace h := e_bind h; obtain ⟨q3, e4, h⟩ := h
  refine w_callV0 (M2 := m_X5_findThresholds) (av := []) (ci := 5) (c_X5_findThresholds  _ _ e4) dX5_findBest_5 kd_X5_findThresholds wd_42_14 wd_42_15 wd_42_16 rfl rfl ⟨rfl, Or.inr ⟨rfl, by decide⟩⟩ rfl ⟨Nat.le_of_ble_eq_true rfl, Nat.le_of_ble_eq_true rfl, Nat.le_of_ble_eq_true rfl, Nat.le_of_ble_eq_true rfl⟩ (Nat.le_of_ble_eq_true rfl) ?_
  refine w_aload_n 0 ((some (26))) dX5_findBest_8 rfl rfl ?_
  refine w_get (v := va_rf (some 29)) dX5_findBest_9 fl_RX5_38 ⟨rfl, Or.inr ⟨rfl, by decide⟩⟩ (aFv_k rfl) ?_
  refine w_aload_n 0 ((some (26))) dX5_findBest_12 rfl rfl ?_
  refine w_get dX5_findBest_13 fl_RX5_41 ⟨rfl, Or.inr ⟨rfl, by decide⟩⟩ (aFv_i rfl) ?_
  refine w_iconst (v := 1) dX5_findBest_16 (by decide) ?_
  refine w_isub dX5_findBest_17 ?_
  replace h := e_grd h; obtain ⟨b5, h⟩ := h
  refine w_iaload dX5_findBest_18 ⟨rfl, Or.inr ⟨rfl, by decide⟩⟩ b5 ?_
  refine w_istore_n dX5_findBest_19 rfl (by decide) rfl ?_
  refine w_aload_n 1 ((some (26))) dX5_findBest_20 rfl rfl ?_
  refine w_iload_n 0 dX5_findBest_21 rfl rfl ?_
  replace h := e_bind h; obtain ⟨q6, e7, h⟩ := h
  refine w_callV1 (M2 := m_X5_blockPart) (av := [.int (gI q3.2 29 ((gI q3.2 26 11) - 1).toNatClampNeg)]) (ci := 5) (c_X5_blockPart _ _ _ e7) dX5_findBest_22 kd_X5_blockPart wd_41_8 wd_41_9 wd_41_10 rfl rfl ⟨rfl, Or.inr ⟨rfl, by decide⟩⟩ rfl ⟨Nat.le_of_ble_eq_true rfl, Nat.le_of_ble_eq_true rfl, Nat.le_of_ble_eq_true rfl, Nat.le_of_ble_eq_true rfl⟩ (Nat.le_of_ble_eq_true rfl) ?_
  refine w_lstore_n dX5_findBest_25 rfl (by decide) rfl ?_
  refine w_aload_n 2 ((some (26))) dX5_findBest_26 rfl rfl ?_
  refine w_ldc2 (v := 9223372036854775807) dX5_findBest_27 wd_42_13 ?_
  refine w_putL dX5_findBest_30 fl_RX5_24 (Or.inl rfl) rfl ⟨rfl, Or.inr ⟨rfl, by decide⟩⟩ ?_
  refine w_aload_n 2 ((some (26))) dX5_findBest_33 rfl rfl ?_
  refine w_get dX5_findBest_34 fl_RX5_41 ⟨rfl, Or.inr ⟨rfl, by decide⟩⟩ (aFv_i rfl) ?_
  refine w_iconst (v := 1) dX5_findBest_37 (by decide) ?_
  refine w_isub dX5_findBest_38 ?_
  refine w_istore dX5_findBest_39 (by decide) rfl ?_
  refine w_sub [3, 2, 1, 0] rfl ?_
  exact l_X5_findBest_41 aN _ _ _ _ _ h
theorem dX11_bestSetting_0 : decode cX11_bestSetting 0 = .ok (.iload_n 1, 1) := by decide +kernel
theorem dX11_bestSetting_1 : decode cX11_bestSetting 1 = .ok (.iconst 0, 1) := by decide +kernel
theorem dX11_bestSetting_2 : decode cX11_bestSetting 2 = .ok (.iconst 2, 1) := by decide +kernel
theorem dX11_bestSetting_3 : decode cX11_bestSetting 3 = .ok (.invokestatic 89, 3) := by decide +kernel
theorem dX11_bestSetting_6 : decode cX11_bestSetting 6 = .ok (.ifCond .ne 7, 3) := by decide +kernel
theorem dX11_bestSetting_9 : decode cX11_bestSetting 9 = .ok (.ldc2_w 265, 3) := by decide +kernel
theorem dX11_bestSetting_12 : decode cX11_bestSetting 12 = .ok (.lreturn, 1) := by decide +kernel
theorem dX11_bestSetting_13 : decode cX11_bestSetting 13 = .ok (.aload_n 0, 1) := by decide +kernel
theorem dX11_bestSetting_14 : decode cX11_bestSetting 14 = .ok (.getfield 52, 3) := by decide +kernel
theorem dX11_bestSetting_17 : decode cX11_bestSetting 17 = .ok (.invokevirtual 271, 3) := by decide +kernel
theorem dX11_bestSetting_20 : decode cX11_bestSetting 20 = .ok (.iload_n 1, 1) := by decide +kernel
theorem dX11_bestSetting_21 : decode cX11_bestSetting 21 = .ok (.iconst 2, 1) := by decide +kernel
theorem dX11_bestSetting_22 : decode cX11_bestSetting 22 = .ok (.if_icmp .ne 11, 3) := by decide +kernel
theorem dX11_bestSetting_25 : decode cX11_bestSetting 25 = .ok (.aload_n 0, 1) := by decide +kernel
theorem dX11_bestSetting_26 : decode cX11_bestSetting 26 = .ok (.getfield 52, 3) := by decide +kernel
theorem dX11_bestSetting_29 : decode cX11_bestSetting 29 = .ok (.getfield 274, 3) := by decide +kernel
theorem dX11_bestSetting_32 : decode cX11_bestSetting 32 = .ok (.lreturn, 1) := by decide +kernel
theorem dX11_bestSetting_33 : decode cX11_bestSetting 33 = .ok (.iload_n 1, 1) := by decide +kernel
theorem dX11_bestSetting_34 : decode cX11_bestSetting 34 = .ok (.ifCond .ne 14, 3) := by decide +kernel
theorem dX11_bestSetting_37 : decode cX11_bestSetting 37 = .ok (.aload_n 0, 1) := by decide +kernel
theorem dX11_bestSetting_38 : decode cX11_bestSetting 38 = .ok (.getfield 52, 3) := by decide +kernel
theorem dX11_bestSetting_41 : decode cX11_bestSetting 41 = .ok (.getfield 278, 3) := by decide +kernel
theorem dX11_bestSetting_44 : decode cX11_bestSetting 44 = .ok (.i2l, 1) := by decide +kernel
theorem dX11_bestSetting_45 : decode cX11_bestSetting 45 = .ok (.goto 11, 3) := by decide +kernel
theorem dX11_bestSetting_48 : decode cX11_bestSetting 48 = .ok (.aload_n 0, 1) := by decide +kernel
theorem dX11_bestSetting_49 : decode cX11_bestSetting 49 = .ok (.getfield 52, 3) := by decide +kernel
theorem dX11_bestSetting_52 : decode cX11_bestSetting 52 = .ok (.getfield 281, 3) := by decide +kernel
theorem dX11_bestSetting_55 : decode cX11_bestSetting 55 = .ok (.i2l, 1) := by decide +kernel
theorem dX11_bestSetting_56 : decode cX11_bestSetting 56 = .ok (.lreturn, 1) := by decide +kernel
theorem kd_X11_bestSetting : aKd m_X11_bestSetting 1 := ⟨wd_42_5, wd_1_2, ⟨by decide +kernel, by decide +kernel, by decide +kernel⟩⟩
set_option maxRecDepth 100000 in
set_option maxHeartbeats 4000000 in
theorem l_X11_bestSetting_56  (t0 : Int64) (σ : aSt) (o : Int64 × aSt) (h : f_X11_bestSetting_56  t0 σ = some o) : AW true m_X11_bestSetting 56 [] [.long (t0)] σ 0 0 (some (.long o.1)) o.2 := by
  unfold f_X11_bestSetting_56 at h
  obtain rfl := Option.some.inj h
  exact w_lreturn dX11_bestSetting_56 rfl (Nat.le_of_ble_eq_true rfl) (Nat.le_of_ble_eq_true rfl)
set_option maxRecDepth 100000 in
set_option maxHeartbeats 4000000 in
theorem c_X11_bestSetting (p1 : Int32) (σ : aSt) (o : Int64 × aSt) (h : f_X11_bestSetting p1 σ = some o) : AM true m_X11_bestSetting [va_rf (some (0)), .int (p1)] σ (some (.long o.1)) o.2 := by
  refine AM_of2 (lv := [(0, va_rf (some (0))), (1, Value.int (p1))]) (by decide +kernel) rfl (Nat.le_of_ble_eq_true rfl) ?_
  unfold f_X11_bestSetting at h
  refine w_iload_n 1 dX11_bestSetting_0 rfl rfl ?_
  refine w_iconst (v := 0) dX11_bestSetting_1 (by decide) ?_
  refine w_iconst (v := 2) dX11_bestSetting_2 (by decide) ?_
  replace h := e_bind h; obtain ⟨q1, e2, h⟩ := h
  refine w_callS1 (M2 := m_X11_within) (av := [.int (p1), .int (0), .int (2)]) (c_X11_within _ _ _ _ _ e2) dX11_bestSetting_3 kd_X11_within wd_9_22 wd_9_23 rfl rfl ⟨Nat.le_of_ble_eq_true rfl, Nat.le_of_ble_eq_true rfl, Nat.le_of_ble_eq_true rfl, Nat.le_of_ble_eq_true rfl⟩ (Nat.le_of_ble_eq_true rfl) ?_
  refine w_if_ne 13 dX11_bestSetting_6 (by decide) (fun c3 => ?_) (fun c3 => ?_)
  · replace h := e_f c3 h
    refine w_aload_n 0 ((some (0))) dX11_bestSetting_13 rfl rfl ?_
    refine w_get (v := va_rf (some 26)) dX11_bestSetting_14 fl_RX11_52 ⟨rfl, Or.inr ⟨rfl, by decide⟩⟩ (aFv_k rfl) ?_
    replace h := e_bind h; obtain ⟨q4, e5, h⟩ := h
    refine w_callV0 (M2 := m_X5_findBest) (av := []) (ci := 5) (c_X5_findBest  _ _ e5) dX11_bestSetting_17 kd_X5_findBest wd_42_9 wd_42_10 wd_42_11 rfl rfl ⟨rfl, Or.inr ⟨rfl, by decide⟩⟩ rfl ⟨Nat.le_of_ble_eq_true rfl, Nat.le_of_ble_eq_true rfl, Nat.le_of_ble_eq_true rfl, Nat.le_of_ble_eq_true rfl⟩ (Nat.le_of_ble_eq_true rfl) ?_
    refine w_iload_n 1 dX11_bestSetting_20 rfl rfl ?_
    refine w_iconst (v := 2) dX11_bestSetting_21 (by decide) ?_
    refine w_icmp_ne 33 dX11_bestSetting_22 (by decide) (fun c6 => ?_) (fun c6 => ?_)
    · replace h := e_f c6 h
      refine w_iload_n 1 dX11_bestSetting_33 rfl rfl ?_
      refine w_if_ne 48 dX11_bestSetting_34 (by decide) (fun c7 => ?_) (fun c7 => ?_)
      · replace h := e_f c7 h
        refine w_aload_n 0 ((some (0))) dX11_bestSetting_48 rfl rfl ?_
        refine w_get (v := va_rf (some 26)) dX11_bestSetting_49 fl_RX11_52 ⟨rfl, Or.inr ⟨rfl, by decide⟩⟩ (aFv_k rfl) ?_
        refine w_get dX11_bestSetting_52 fl_RX11_281 ⟨rfl, Or.inr ⟨rfl, by decide⟩⟩ (aFv_i rfl) ?_
        refine w_i2l dX11_bestSetting_55 ?_
        refine w_sub [] rfl ?_
        exact l_X11_bestSetting_56 _ _ _ h
      · replace h := e_t c7 h
        refine w_aload_n 0 ((some (0))) dX11_bestSetting_37 rfl rfl ?_
        refine w_get (v := va_rf (some 26)) dX11_bestSetting_38 fl_RX11_52 ⟨rfl, Or.inr ⟨rfl, by decide⟩⟩ (aFv_k rfl) ?_
        refine w_get dX11_bestSetting_41 fl_RX11_278 ⟨rfl, Or.inr ⟨rfl, by decide⟩⟩ (aFv_i rfl) ?_
        refine w_i2l dX11_bestSetting_44 ?_
        refine w_goto 56 dX11_bestSetting_45 (by decide) ?_
        refine w_sub [] rfl ?_
        exact l_X11_bestSetting_56 _ _ _ h
    · replace h := e_t c6 h
      refine w_aload_n 0 ((some (0))) dX11_bestSetting_25 rfl rfl ?_
      refine w_get (v := va_rf (some 26)) dX11_bestSetting_26 fl_RX11_52 ⟨rfl, Or.inr ⟨rfl, by decide⟩⟩ (aFv_k rfl) ?_
      refine w_get dX11_bestSetting_29 fl_RX11_274 ⟨rfl, Or.inr ⟨rfl, by decide⟩⟩ (aFv_l rfl) ?_
      obtain rfl := Option.some.inj h
      exact w_lreturn dX11_bestSetting_32 rfl (Nat.le_of_ble_eq_true rfl) (Nat.le_of_ble_eq_true rfl)
  · replace h := e_t c3 h
    refine w_ldc2 (v := (-1000001)) dX11_bestSetting_9 wd_40_13 ?_
    obtain rfl := Option.some.inj h
    exact w_lreturn dX11_bestSetting_12 rfl (Nat.le_of_ble_eq_true rfl) (Nat.le_of_ble_eq_true rfl)
theorem dX8_allRules_0 : decode cX8_allRules 0 = .ok (.iconst 1, 1) := by decide +kernel
theorem dX8_allRules_1 : decode cX8_allRules 1 = .ok (.aload_n 0, 1) := by decide +kernel
theorem dX8_allRules_2 : decode cX8_allRules 2 = .ok (.getfield 15, 3) := by decide +kernel
theorem dX8_allRules_5 : decode cX8_allRules 5 = .ok (.ishl, 1) := by decide +kernel
theorem dX8_allRules_6 : decode cX8_allRules 6 = .ok (.iconst 1, 1) := by decide +kernel
theorem dX8_allRules_7 : decode cX8_allRules 7 = .ok (.isub, 1) := by decide +kernel
theorem dX8_allRules_8 : decode cX8_allRules 8 = .ok (.ireturn, 1) := by decide +kernel
theorem kd_X8_allRules : aKd m_X8_allRules 0 := ⟨wd_43_21, wd_2_21, ⟨by decide +kernel, by decide +kernel, by decide +kernel⟩⟩
set_option maxRecDepth 100000 in
set_option maxHeartbeats 4000000 in
theorem c_X8_allRules (p0 : Nat) (σ : aSt) (o : Int32 × aSt) (h : f_X8_allRules p0 σ = some o) : AM true m_X8_allRules [va_rf (some (p0))] σ (some (.int o.1)) o.2 := by
  refine AM_of2 (lv := [(0, va_rf (some (p0)))]) (by decide +kernel) rfl (Nat.le_of_ble_eq_true rfl) ?_
  unfold f_X8_allRules at h
  refine w_iconst (v := 1) dX8_allRules_0 (by decide) ?_
  refine w_aload_n 0 ((some (p0))) dX8_allRules_1 rfl rfl ?_
  replace h := e_grd h; obtain ⟨g1, h⟩ := h
  refine w_get dX8_allRules_2 fl_RX8_15 ⟨g1.1, Or.inl g1.2⟩ (aFv_i rfl) ?_
  refine w_ishl dX8_allRules_5 ?_
  refine w_iconst (v := 1) dX8_allRules_6 (by decide) ?_
  refine w_isub dX8_allRules_7 ?_
  obtain rfl := Option.some.inj h
  exact w_ireturn dX8_allRules_8 rfl (Nat.le_of_ble_eq_true rfl) (Nat.le_of_ble_eq_true rfl)
theorem dX5_sumUp_0 : decode cX5_sumUp 0 = .ok (.aload_n 0, 1) := by decide +kernel
theorem dX5_sumUp_1 : decode cX5_sumUp 1 = .ok (.getfield 53, 3) := by decide +kernel
theorem dX5_sumUp_4 : decode cX5_sumUp 4 = .ok (.getfield 117, 3) := by decide +kernel
theorem dX5_sumUp_7 : decode cX5_sumUp 7 = .ok (.invokevirtual 121, 3) := by decide +kernel
theorem dX5_sumUp_10 : decode cX5_sumUp 10 = .ok (.istore_n 1, 1) := by decide +kernel
theorem dX5_sumUp_11 : decode cX5_sumUp 11 = .ok (.aload_n 0, 1) := by decide +kernel
theorem dX5_sumUp_12 : decode cX5_sumUp 12 = .ok (.getfield 46, 3) := by decide +kernel
theorem dX5_sumUp_15 : decode cX5_sumUp 15 = .ok (.iconst 0, 1) := by decide +kernel
theorem dX5_sumUp_16 : decode cX5_sumUp 16 = .ok (.invokestatic 131, 3) := by decide +kernel
theorem dX5_sumUp_19 : decode cX5_sumUp 19 = .ok (.iconst 0, 1) := by decide +kernel
theorem dX5_sumUp_20 : decode cX5_sumUp 20 = .ok (.istore_n 2, 1) := by decide +kernel
theorem dX5_sumUp_21 : decode cX5_sumUp 21 = .ok (.iload_n 2, 1) := by decide +kernel
theorem dX5_sumUp_22 : decode cX5_sumUp 22 = .ok (.aload_n 0, 1) := by decide +kernel
theorem dX5_sumUp_23 : decode cX5_sumUp 23 = .ok (.getfield 49, 3) := by decide +kernel
theorem dX5_sumUp_26 : decode cX5_sumUp 26 = .ok (.getfield 74, 3) := by decide +kernel
theorem dX5_sumUp_29 : decode cX5_sumUp 29 = .ok (.if_icmp .ge 79, 3) := by decide +kernel
theorem dX5_sumUp_32 : decode cX5_sumUp 32 = .ok (.aload_n 0, 1) := by decide +kernel
theorem dX5_sumUp_33 : decode cX5_sumUp 33 = .ok (.getfield 49, 3) := by decide +kernel
theorem dX5_sumUp_36 : decode cX5_sumUp 36 = .ok (.iload_n 2, 1) := by decide +kernel
theorem dX5_sumUp_37 : decode cX5_sumUp 37 = .ok (.invokevirtual 79, 3) := by decide +kernel
theorem dX5_sumUp_40 : decode cX5_sumUp 40 = .ok (.astore_n 3, 1) := by decide +kernel
theorem dX5_sumUp_41 : decode cX5_sumUp 41 = .ok (.aload_n 3, 1) := by decide +kernel
theorem dX5_sumUp_42 : decode cX5_sumUp 42 = .ok (.ifnull 60, 3) := by decide +kernel
theorem dX5_sumUp_45 : decode cX5_sumUp 45 = .ok (.aload_n 3, 1) := by decide +kernel
theorem dX5_sumUp_46 : decode cX5_sumUp 46 = .ok (.getfield 83, 3) := by decide +kernel
theorem dX5_sumUp_49 : decode cX5_sumUp 49 = .ok (.ldc 88, 2) := by decide +kernel
theorem dX5_sumUp_51 : decode cX5_sumUp 51 = .ok (.if_icmp .eq 51, 3) := by decide +kernel
theorem dX5_sumUp_54 : decode cX5_sumUp 54 = .ok (.aload_n 3, 1) := by decide +kernel
theorem dX5_sumUp_55 : decode cX5_sumUp 55 = .ok (.getfield 108, 3) := by decide +kernel
theorem dX5_sumUp_58 : decode cX5_sumUp 58 = .ok (.iconst 2, 1) := by decide +kernel
theorem dX5_sumUp_59 : decode cX5_sumUp 59 = .ok (.irem, 1) := by decide +kernel
theorem dX5_sumUp_60 : decode cX5_sumUp 60 = .ok (.ifCond .ne 42, 3) := by decide +kernel
theorem dX5_sumUp_63 : decode cX5_sumUp 63 = .ok (.aload_n 0, 1) := by decide +kernel
theorem dX5_sumUp_64 : decode cX5_sumUp 64 = .ok (.getfield 46, 3) := by decide +kernel
theorem dX5_sumUp_67 : decode cX5_sumUp 67 = .ok (.aload_n 0, 1) := by decide +kernel
theorem dX5_sumUp_68 : decode cX5_sumUp 68 = .ok (.getfield 53, 3) := by decide +kernel
theorem dX5_sumUp_71 : decode cX5_sumUp 71 = .ok (.aload_n 3, 1) := by decide +kernel
theorem dX5_sumUp_72 : decode cX5_sumUp 72 = .ok (.iconst 0, 1) := by decide +kernel
theorem dX5_sumUp_73 : decode cX5_sumUp 73 = .ok (.invokevirtual 111, 3) := by decide +kernel
theorem dX5_sumUp_76 : decode cX5_sumUp 76 = .ok (.iload_n 1, 1) := by decide +kernel
theorem dX5_sumUp_77 : decode cX5_sumUp 77 = .ok (.iand, 1) := by decide +kernel
theorem dX5_sumUp_78 : decode cX5_sumUp 78 = .ok (.dup2, 1) := by decide +kernel
theorem dX5_sumUp_79 : decode cX5_sumUp 79 = .ok (.iaload, 1) := by decide +kernel
theorem dX5_sumUp_80 : decode cX5_sumUp 80 = .ok (.aload_n 3, 1) := by decide +kernel
theorem dX5_sumUp_81 : decode cX5_sumUp 81 = .ok (.getfield 83, 3) := by decide +kernel
theorem dX5_sumUp_84 : decode cX5_sumUp 84 = .ok (.iconst 1, 1) := by decide +kernel
theorem dX5_sumUp_85 : decode cX5_sumUp 85 = .ok (.if_icmp .ne 10, 3) := by decide +kernel
theorem dX5_sumUp_88 : decode cX5_sumUp 88 = .ok (.aload_n 3, 1) := by decide +kernel
theorem dX5_sumUp_89 : decode cX5_sumUp 89 = .ok (.getfield 95, 3) := by decide +kernel
theorem dX5_sumUp_92 : decode cX5_sumUp 92 = .ok (.goto 8, 3) := by decide +kernel
theorem dX5_sumUp_95 : decode cX5_sumUp 95 = .ok (.aload_n 0, 1) := by decide +kernel
theorem dX5_sumUp_96 : decode cX5_sumUp 96 = .ok (.getfield 9, 3) := by decide +kernel
theorem dX5_sumUp_99 : decode cX5_sumUp 99 = .ok (.ineg, 1) := by decide +kernel
theorem dX5_sumUp_100 : decode cX5_sumUp 100 = .ok (.iadd, 1) := by decide +kernel
theorem dX5_sumUp_101 : decode cX5_sumUp 101 = .ok (.iastore, 1) := by decide +kernel
theorem dX5_sumUp_102 : decode cX5_sumUp 102 = .ok (.iinc 2 1, 3) := by decide +kernel
theorem dX5_sumUp_105 : decode cX5_sumUp 105 = .ok (.goto (-84), 3) := by decide +kernel
theorem dX5_sumUp_108 : decode cX5_sumUp 108 = .ok (.iconst 0, 1) := by decide +kernel
theorem dX5_sumUp_109 : decode cX5_sumUp 109 = .ok (.istore_n 2, 1) := by decide +kernel
theorem dX5_sumUp_110 : decode cX5_sumUp 110 = .ok (.iload_n 2, 1) := by decide +kernel
theorem dX5_sumUp_111 : decode cX5_sumUp 111 = .ok (.aload_n 0, 1) := by decide +kernel
theorem dX5_sumUp_112 : decode cX5_sumUp 112 = .ok (.getfield 53, 3) := by decide +kernel
theorem dX5_sumUp_115 : decode cX5_sumUp 115 = .ok (.getfield 117, 3) := by decide +kernel
theorem dX5_sumUp_118 : decode cX5_sumUp 118 = .ok (.getfield 137, 3) := by decide +kernel
theorem dX5_sumUp_121 : decode cX5_sumUp 121 = .ok (.if_icmp .ge 50, 3) := by decide +kernel
theorem dX5_sumUp_124 : decode cX5_sumUp 124 = .ok (.iconst 0, 1) := by decide +kernel
theorem dX5_sumUp_125 : decode cX5_sumUp 125 = .ok (.istore_n 3, 1) := by decide +kernel
theorem dX5_sumUp_126 : decode cX5_sumUp 126 = .ok (.iload_n 3, 1) := by decide +kernel
theorem dX5_sumUp_127 : decode cX5_sumUp 127 = .ok (.iload_n 1, 1) := by decide +kernel
theorem dX5_sumUp_128 : decode cX5_sumUp 128 = .ok (.if_icmp .gt 37, 3) := by decide +kernel
theorem dX5_sumUp_131 : decode cX5_sumUp 131 = .ok (.iload_n 3, 1) := by decide +kernel
theorem dX5_sumUp_132 : decode cX5_sumUp 132 = .ok (.iload_n 2, 1) := by decide +kernel
theorem dX5_sumUp_133 : decode cX5_sumUp 133 = .ok (.ishr, 1) := by decide +kernel
theorem dX5_sumUp_134 : decode cX5_sumUp 134 = .ok (.iconst 1, 1) := by decide +kernel
theorem dX5_sumUp_135 : decode cX5_sumUp 135 = .ok (.iand, 1) := by decide +kernel
theorem dX5_sumUp_136 : decode cX5_sumUp 136 = .ok (.iconst 1, 1) := by decide +kernel
theorem dX5_sumUp_137 : decode cX5_sumUp 137 = .ok (.if_icmp .ne 22, 3) := by decide +kernel
theorem dX5_sumUp_140 : decode cX5_sumUp 140 = .ok (.aload_n 0, 1) := by decide +kernel
theorem dX5_sumUp_141 : decode cX5_sumUp 141 = .ok (.getfield 46, 3) := by decide +kernel
theorem dX5_sumUp_144 : decode cX5_sumUp 144 = .ok (.iload_n 3, 1) := by decide +kernel
theorem dX5_sumUp_145 : decode cX5_sumUp 145 = .ok (.dup2, 1) := by decide +kernel
theorem dX5_sumUp_146 : decode cX5_sumUp 146 = .ok (.iaload, 1) := by decide +kernel
theorem dX5_sumUp_147 : decode cX5_sumUp 147 = .ok (.aload_n 0, 1) := by decide +kernel
theorem dX5_sumUp_148 : decode cX5_sumUp 148 = .ok (.getfield 46, 3) := by decide +kernel
theorem dX5_sumUp_151 : decode cX5_sumUp 151 = .ok (.iload_n 3, 1) := by decide +kernel
theorem dX5_sumUp_152 : decode cX5_sumUp 152 = .ok (.iconst 1, 1) := by decide +kernel
theorem dX5_sumUp_153 : decode cX5_sumUp 153 = .ok (.iload_n 2, 1) := by decide +kernel
theorem dX5_sumUp_154 : decode cX5_sumUp 154 = .ok (.ishl, 1) := by decide +kernel
theorem dX5_sumUp_155 : decode cX5_sumUp 155 = .ok (.ixor, 1) := by decide +kernel
theorem dX5_sumUp_156 : decode cX5_sumUp 156 = .ok (.iaload, 1) := by decide +kernel
theorem dX5_sumUp_157 : decode cX5_sumUp 157 = .ok (.iadd, 1) := by decide +kernel
theorem dX5_sumUp_158 : decode cX5_sumUp 158 = .ok (.iastore, 1) := by decide +kernel
theorem dX5_sumUp_159 : decode cX5_sumUp 159 = .ok (.iinc 3 1, 3) := by decide +kernel
theorem dX5_sumUp_162 : decode cX5_sumUp 162 = .ok (.goto (-36), 3) := by decide +kernel
theorem dX5_sumUp_165 : decode cX5_sumUp 165 = .ok (.iinc 2 1, 3) := by decide +kernel
theorem dX5_sumUp_168 : decode cX5_sumUp 168 = .ok (.goto (-58), 3) := by decide +kernel
theorem dX5_sumUp_171 : decode cX5_sumUp 171 = .ok (.return_, 1) := by decide +kernel
theorem kd_X5_sumUp : aKd m_X5_sumUp 0 := ⟨wd_43_15, wd_2_9, ⟨by decide +kernel, by decide +kernel, by decide +kernel⟩⟩
set_option maxRecDepth 100000 in
set_option maxHeartbeats 4000000 in
theorem l_X5_sumUp_102 (rec21 : Int32 → Int32 → aSt → Option (Unit × aSt)) (hrec21 : ∀ (x1 : Int32) (x2 : Int32) (σ : aSt) (o : Unit × aSt), rec21 x1 x2 σ = some o → AW true m_X5_sumUp 21 [(0, va_rf (some (26))), (1, Value.int (x1)), (2, Value.int (x2))] [] σ 0 0 none o.2) (x1 : Int32) (x2 : Int32) (σ : aSt) (o : Unit × aSt) (h : f_X5_sumUp_102 rec21 x1 x2 σ = some o) : AW true m_X5_sumUp 102 [(0, va_rf (some (26))), (1, Value.int (x1)), (2, Value.int (x2))] [] σ 0 0 none o.2 := by
  unfold f_X5_sumUp_102 at h
  refine w_iinc (q := 2) (v := x2 + 1) dX5_sumUp_102 rfl rfl (by decide) rfl ?_
  refine w_goto 21 dX5_sumUp_105 (by decide) ?_
  refine w_sub [1, 2, 0] rfl ?_
  exact hrec21 _ _ _ _ h
set_option maxRecDepth 100000 in
set_option maxHeartbeats 4000000 in
theorem l_X5_sumUp_100 (rec21 : Int32 → Int32 → aSt → Option (Unit × aSt)) (hrec21 : ∀ (x1 : Int32) (x2 : Int32) (σ : aSt) (o : Unit × aSt), rec21 x1 x2 σ = some o → AW true m_X5_sumUp 21 [(0, va_rf (some (26))), (1, Value.int (x1)), (2, Value.int (x2))] [] σ 0 0 none o.2) (x1 : Int32) (x2 : Int32) (t1 : Int32) (t2 : Int32) (t3 : Int32) (σ : aSt) (o : Unit × aSt) (h : f_X5_sumUp_100 rec21 x1 x2 t1 t2 t3 σ = some o) : AW true m_X5_sumUp 100 [(0, va_rf (some (26))), (1, Value.int (x1)), (2, Value.int (x2))] [.int (t3), .int (t2), .int (t1), va_rf (some (30))] σ 0 0 none o.2 := by
  unfold f_X5_sumUp_100 at h
  refine w_iadd dX5_sumUp_100 ?_
  replace h := e_grd h; obtain ⟨b17, h⟩ := h
  refine w_iastore dX5_sumUp_101 ⟨rfl, Or.inr ⟨rfl, by decide⟩⟩ b17 ?_
  exact l_X5_sumUp_102 rec21 hrec21 _ _ _ _ h
set_option maxRecDepth 100000 in
set_option maxHeartbeats 4000000 in
theorem l_X5_sumUp_159 (rec110 : Int32 → Int32 → aSt → Option (Unit × aSt)) (hrec110 : ∀ (x1 : Int32) (x2 : Int32) (σ : aSt) (o : Unit × aSt), rec110 x1 x2 σ = some o → AW true m_X5_sumUp 110 [(0, va_rf (some (26))), (1, Value.int (x1)), (2, Value.int (x2))] [] σ 0 0 none o.2) (rec126 : Int32 → Int32 → Int32 → aSt → Option (Unit × aSt)) (hrec126 : ∀ (x1 : Int32) (x2 : Int32) (x3 : Int32) (σ : aSt) (o : Unit × aSt), rec126 x1 x2 x3 σ = some o → AW true m_X5_sumUp 126 [(0, va_rf (some (26))), (1, Value.int (x1)), (2, Value.int (x2)), (3, Value.int (x3))] [] σ 0 0 none o.2) (x1 : Int32) (x2 : Int32) (x3 : Int32) (σ : aSt) (o : Unit × aSt) (h : f_X5_sumUp_159 rec110 rec126 x1 x2 x3 σ = some o) : AW true m_X5_sumUp 159 [(0, va_rf (some (26))), (1, Value.int (x1)), (2, Value.int (x2)), (3, Value.int (x3))] [] σ 0 0 none o.2 := by
  unfold f_X5_sumUp_159 at h
  refine w_iinc (q := 3) (v := x3 + 1) dX5_sumUp_159 rfl rfl (by decide) rfl ?_
  refine w_goto 126 dX5_sumUp_162 (by decide) ?_
  refine w_sub [1, 2, 3, 0] rfl ?_
  exact hrec126 _ _ _ _ _ h
set_option maxRecDepth 100000 in
set_option maxHeartbeats 4000000 in
theorem l_X5_sumUp_126_b (rec110 : Int32 → Int32 → aSt → Option (Unit × aSt)) (hrec110 : ∀ (x1 : Int32) (x2 : Int32) (σ : aSt) (o : Unit × aSt), rec110 x1 x2 σ = some o → AW true m_X5_sumUp 110 [(0, va_rf (some (26))), (1, Value.int (x1)), (2, Value.int (x2))] [] σ 0 0 none o.2) (rec126 : Int32 → Int32 → Int32 → aSt → Option (Unit × aSt)) (hrec126 : ∀ (x1 : Int32) (x2 : Int32) (x3 : Int32) (σ : aSt) (o : Unit × aSt), rec126 x1 x2 x3 σ = some o → AW true m_X5_sumUp 126 [(0, va_rf (some (26))), (1, Value.int (x1)), (2, Value.int (x2)), (3, Value.int (x3))] [] σ 0 0 none o.2) (x1 : Int32) (x2 : Int32) (x3 : Int32) (σ : aSt) (o : Unit × aSt) (h : f_X5_sumUp_126_b rec110 rec126 x1 x2 x3 σ = some o) : AW true m_X5_sumUp 126 [(0, va_rf (some (26))), (1, Value.int (x1)), (2, Value.int (x2)), (3, Value.int (x3))] [] σ 0 0 none o.2 := by
  unfold f_X5_sumUp_126_b at h
  refine w_iload_n 3 dX5_sumUp_126 rfl rfl ?_
  refine w_iload_n 1 dX5_sumUp_127 rfl rfl ?_
  refine w_icmp_gt 165 dX5_sumUp_128 (by decide) (fun c8 => ?_) (fun c8 => ?_)
  · replace h := e_t c8 h
    refine w_iinc (q := 2) (v := x2 + 1) dX5_sumUp_165 rfl rfl (by decide) rfl ?_
    refine w_goto 110 dX5_sumUp_168 (by decide) ?_
    refine w_sub [1, 2, 0] rfl ?_
    exact hrec110 _ _ _ _ h
  · replace h := e_f c8 h
    refine w_iload_n 3 dX5_sumUp_131 rfl rfl ?_
    refine w_iload_n 2 dX5_sumUp_132 rfl rfl ?_
    refine w_ishr dX5_sumUp_133 ?_
    refine w_iconst (v := 1) dX5_sumUp_134 (by decide) ?_
    refine w_iand dX5_sumUp_135 ?_
    refine w_iconst (v := 1) dX5_sumUp_136 (by decide) ?_
    refine w_icmp_ne 159 dX5_sumUp_137 (by decide) (fun c9 => ?_) (fun c9 => ?_)
    · replace h := e_f c9 h
      exact l_X5_sumUp_159 rec110 hrec110 rec126 hrec126 _ _ _ _ _ h
    · replace h := e_t c9 h
      refine w_aload_n 0 ((some (26))) dX5_sumUp_140 rfl rfl ?_
      refine w_get (v := va_rf (some 30)) dX5_sumUp_141 fl_RX5_46 ⟨rfl, Or.inr ⟨rfl, by decide⟩⟩ (aFv_k rfl) ?_
      refine w_iload_n 3 dX5_sumUp_144 rfl rfl ?_
      refine w_dup2 dX5_sumUp_145 rfl (aRf_cat _) ?_
      replace h := e_grd h; obtain ⟨b10, h⟩ := h
      refine w_iaload dX5_sumUp_146 ⟨rfl, Or.inr ⟨rfl, by decide⟩⟩ b10 ?_
      refine w_aload_n 0 ((some (26))) dX5_sumUp_147 rfl rfl ?_
      refine w_get (v := va_rf (some 30)) dX5_sumUp_148 fl_RX5_46 ⟨rfl, Or.inr ⟨rfl, by decide⟩⟩ (aFv_k rfl) ?_
      refine w_iload_n 3 dX5_sumUp_151 rfl rfl ?_
      refine w_iconst (v := 1) dX5_sumUp_152 (by decide) ?_
      refine w_iload_n 2 dX5_sumUp_153 rfl rfl ?_
      refine w_ishl dX5_sumUp_154 ?_
      refine w_ixor dX5_sumUp_155 ?_
      replace h := e_grd h; obtain ⟨b11, h⟩ := h
      refine w_iaload dX5_sumUp_156 ⟨rfl, Or.inr ⟨rfl, by decide⟩⟩ b11 ?_
      refine w_iadd dX5_sumUp_157 ?_
      replace h := e_grd h; obtain ⟨b12, h⟩ := h
      refine w_iastore dX5_sumUp_158 ⟨rfl, Or.inr ⟨rfl, by decide⟩⟩ b12 ?_
      exact l_X5_sumUp_159 rec110 hrec110 rec126 hrec126 _ _ _ _ _ h
theorem l_X5_sumUp_126 (rec110 : Int32 → Int32 → aSt → Option (Unit × aSt)) (hrec110 : ∀ (x1 : Int32) (x2 : Int32) (σ : aSt) (o : Unit × aSt), rec110 x1 x2 σ = some o → AW true m_X5_sumUp 110 [(0, va_rf (some (26))), (1, Value.int (x1)), (2, Value.int (x2))] [] σ 0 0 none o.2) : ∀ (n : Nat) (x1 : Int32) (x2 : Int32) (x3 : Int32) (σ : aSt) (o : Unit × aSt), f_X5_sumUp_126 rec110 n x1 x2 x3 σ = some o → AW true m_X5_sumUp 126 [(0, va_rf (some (26))), (1, Value.int (x1)), (2, Value.int (x2)), (3, Value.int (x3))] [] σ 0 0 none o.2
  | 0 => fun x1 x2 x3 σ o h => by cases h
  | n + 1 => fun x1 x2 x3 σ o h => l_X5_sumUp_126_b rec110 hrec110 (f_X5_sumUp_126 rec110 n) (l_X5_sumUp_126 rec110 hrec110 n) x1 x2 x3 σ o h
set_option maxRecDepth 100000 in
set_option maxHeartbeats 4000000 in
theorem l_X5_sumUp_110_b (rec110 : Int32 → Int32 → aSt → Option (Unit × aSt)) (hrec110 : ∀ (x1 : Int32) (x2 : Int32) (σ : aSt) (o : Unit × aSt), rec110 x1 x2 σ = some o → AW true m_X5_sumUp 110 [(0, va_rf (some (26))), (1, Value.int (x1)), (2, Value.int (x2))] [] σ 0 0 none o.2) (x1 : Int32) (x2 : Int32) (σ : aSt) (o : Unit × aSt) (h : f_X5_sumUp_110_b rec110 x1 x2 σ = some o) : AW true m_X5_sumUp 110 [(0, va_rf (some (26))), (1, Value.int (x1)), (2, Value.int (x2))] [] σ 0 0 none o.2 := by
  unfold f_X5_sumUp_110_b at h
  refine w_iload_n 2 dX5_sumUp_110 rfl rfl ?_
  refine w_aload_n 0 ((some (26))) dX5_sumUp_111 rfl rfl ?_
  refine w_get (v := va_rf (some 11)) dX5_sumUp_112 fl_RX5_53 ⟨rfl, Or.inr ⟨rfl, by decide⟩⟩ (aFv_k rfl) ?_
  refine w_get dX5_sumUp_115 fl_RX5_117 ⟨rfl, Or.inr ⟨rfl, by decide⟩⟩ (aFv_q (Or.inl rfl)) ?_
  replace h := e_oS h; obtain ⟨a13, r14, h⟩ := h
  rw [r14]
  replace h := e_grd h; obtain ⟨g15, h⟩ := h
  refine w_get dX5_sumUp_118 fl_RX5_137 ⟨g15.1, Or.inl g15.2⟩ (aFv_i rfl) ?_
  refine w_icmp_ge 171 dX5_sumUp_121 (by decide) (fun c16 => ?_) (fun c16 => ?_)
  · replace h := e_t c16 h
    obtain rfl := Option.some.inj h
    exact w_vreturn dX5_sumUp_171 rfl (Nat.le_of_ble_eq_true rfl) (Nat.le_of_ble_eq_true rfl)
  · replace h := e_f c16 h
    refine w_iconst (v := 0) dX5_sumUp_124 (by decide) ?_
    refine w_istore_n dX5_sumUp_125 rfl (by decide) rfl ?_
    refine w_sub [1, 2, 3, 0] rfl ?_
    exact l_X5_sumUp_126 rec110 hrec110 aN _ _ _ _ _ h
theorem l_X5_sumUp_110  : ∀ (n : Nat) (x1 : Int32) (x2 : Int32) (σ : aSt) (o : Unit × aSt), f_X5_sumUp_110  n x1 x2 σ = some o → AW true m_X5_sumUp 110 [(0, va_rf (some (26))), (1, Value.int (x1)), (2, Value.int (x2))] [] σ 0 0 none o.2
  | 0 => fun x1 x2 σ o h => by cases h
  | n + 1 => fun x1 x2 σ o h => l_X5_sumUp_110_b (f_X5_sumUp_110  n) (l_X5_sumUp_110  n) x1 x2 σ o h
set_option maxRecDepth 100000 in
set_option maxHeartbeats 4000000 in
theorem l_X5_sumUp_21_b (rec21 : Int32 → Int32 → aSt → Option (Unit × aSt)) (hrec21 : ∀ (x1 : Int32) (x2 : Int32) (σ : aSt) (o : Unit × aSt), rec21 x1 x2 σ = some o → AW true m_X5_sumUp 21 [(0, va_rf (some (26))), (1, Value.int (x1)), (2, Value.int (x2))] [] σ 0 0 none o.2) (x1 : Int32) (x2 : Int32) (σ : aSt) (o : Unit × aSt) (h : f_X5_sumUp_21_b rec21 x1 x2 σ = some o) : AW true m_X5_sumUp 21 [(0, va_rf (some (26))), (1, Value.int (x1)), (2, Value.int (x2))] [] σ 0 0 none o.2 := by
  unfold f_X5_sumUp_21_b at h
  refine w_iload_n 2 dX5_sumUp_21 rfl rfl ?_
  refine w_aload_n 0 ((some (26))) dX5_sumUp_22 rfl rfl ?_
  refine w_get (v := va_rf (some 2)) dX5_sumUp_23 fl_RX5_49 ⟨rfl, Or.inr ⟨rfl, by decide⟩⟩ (aFv_k rfl) ?_
  refine w_get dX5_sumUp_26 fl_RX5_74 ⟨rfl, Or.inr ⟨rfl, by decide⟩⟩ (aFv_i rfl) ?_
  refine w_icmp_ge 108 dX5_sumUp_29 (by decide) (fun c18 => ?_) (fun c18 => ?_)
  · replace h := e_t c18 h
    refine w_iconst (v := 0) dX5_sumUp_108 (by decide) ?_
    refine w_istore_n dX5_sumUp_109 rfl (by decide) rfl ?_
    refine w_sub [1, 2, 0] rfl ?_
    exact l_X5_sumUp_110 aN _ _ _ _ h
  · replace h := e_f c18 h
    refine w_aload_n 0 ((some (26))) dX5_sumUp_32 rfl rfl ?_
    refine w_get (v := va_rf (some 2)) dX5_sumUp_33 fl_RX5_49 ⟨rfl, Or.inr ⟨rfl, by decide⟩⟩ (aFv_k rfl) ?_
    refine w_iload_n 2 dX5_sumUp_36 rfl rfl ?_
    replace h := e_bind h; obtain ⟨q19, e20, h⟩ := h
    refine w_callV1 (M2 := m_X3_inOrder) (av := [.int (x2)]) (ci := 3) (c_X3_inOrder _ _ _ e20) dX5_sumUp_37 kd_X3_inOrder wd_41_2 wd_17_10 wd_17_11 rfl rfl ⟨rfl, Or.inr ⟨rfl, by decide⟩⟩ rfl ⟨Nat.le_of_ble_eq_true rfl, Nat.le_of_ble_eq_true rfl, Nat.le_of_ble_eq_true rfl, Nat.le_of_ble_eq_true rfl⟩ (Nat.le_of_ble_eq_true rfl) ?_
    refine w_astore_n dX5_sumUp_40 rfl (by decide) rfl ?_
    refine w_aload_n 0 (q19.1) dX5_sumUp_41 rfl rfl ?_
    replace h := e_oC h; rcases h with ⟨r30, h⟩ | ⟨a21, r30, h⟩
    · rw [r30]
      refine w_ifnull0 102 dX5_sumUp_42 (by decide) ?_
      refine w_sub [1, 2, 3] rfl ?_
      exact l_X5_sumUp_102 rec21 hrec21 _ _ _ _ h
    · rw [r30]
      refine w_ifnull1 dX5_sumUp_42 ?_
      refine w_aload_n 0 ((some (a21))) dX5_sumUp_45 rfl rfl ?_
      replace h := e_grd h; obtain ⟨g22, h⟩ := h
      refine w_get dX5_sumUp_46 fl_RX5_83 ⟨g22.1, Or.inl g22.2⟩ (aFv_i rfl) ?_
      refine w_ldc (v := (-1000000)) dX5_sumUp_49 wd_41_0 ?_
      refine w_icmp_eq 102 dX5_sumUp_51 (by decide) (fun c23 => ?_) (fun c23 => ?_)
      · replace h := e_t c23 h
        refine w_sub [1, 2, 3] rfl ?_
        exact l_X5_sumUp_102 rec21 hrec21 _ _ _ _ h
      · replace h := e_f c23 h
        refine w_aload_n 0 ((some (a21))) dX5_sumUp_54 rfl rfl ?_
        refine w_get dX5_sumUp_55 fl_RX5_108 ⟨g22.1, Or.inl g22.2⟩ (aFv_i rfl) ?_
        refine w_iconst (v := 2) dX5_sumUp_58 (by decide) ?_
        refine w_irem dX5_sumUp_59 (by decide) ?_
        refine w_if_ne 102 dX5_sumUp_60 (by decide) (fun c24 => ?_) (fun c24 => ?_)
        · replace h := e_f c24 h
          refine w_sub [1, 2, 3] rfl ?_
          exact l_X5_sumUp_102 rec21 hrec21 _ _ _ _ h
        · replace h := e_t c24 h
          refine w_aload_n 1 ((some (26))) dX5_sumUp_63 rfl rfl ?_
          refine w_get (v := va_rf (some 30)) dX5_sumUp_64 fl_RX5_46 ⟨rfl, Or.inr ⟨rfl, by decide⟩⟩ (aFv_k rfl) ?_
          refine w_aload_n 1 ((some (26))) dX5_sumUp_67 rfl rfl ?_
          refine w_get (v := va_rf (some 11)) dX5_sumUp_68 fl_RX5_53 ⟨rfl, Or.inr ⟨rfl, by decide⟩⟩ (aFv_k rfl) ?_
          refine w_aload_n 0 ((some (a21))) dX5_sumUp_71 rfl rfl ?_
          refine w_iconst (v := 0) dX5_sumUp_72 (by decide) ?_
          replace h := e_bind h; obtain ⟨q25, e26, h⟩ := h
          refine w_callV1 (M2 := m_X2_heldBy) (av := [va_rf (some (a21)), .int (0)]) (ci := 2) (c_X2_heldBy _ _ _ _ e26) dX5_sumUp_73 kd_X2_heldBy wd_43_23 wd_35_2 wd_35_3 rfl rfl ⟨rfl, Or.inr ⟨rfl, by decide⟩⟩ rfl ⟨Nat.le_of_ble_eq_true rfl, Nat.le_of_ble_eq_true rfl, Nat.le_of_ble_eq_true rfl, Nat.le_of_ble_eq_true rfl⟩ (Nat.le_of_ble_eq_true rfl) ?_
          refine w_iload_n 2 dX5_sumUp_76 rfl rfl ?_
          refine w_iand dX5_sumUp_77 ?_
          refine w_dup2 dX5_sumUp_78 rfl (aRf_cat _) ?_
          replace h := e_grd h; obtain ⟨b27, h⟩ := h
          refine w_iaload dX5_sumUp_79 ⟨rfl, Or.inr ⟨rfl, by decide⟩⟩ b27 ?_
          refine w_aload_n 0 ((some (a21))) dX5_sumUp_80 rfl rfl ?_
          replace h := e_grd h; obtain ⟨g28, h⟩ := h
          refine w_get dX5_sumUp_81 fl_RX5_83 ⟨g28.1, Or.inl g28.2⟩ (aFv_i rfl) ?_
          refine w_iconst (v := 1) dX5_sumUp_84 (by decide) ?_
          refine w_icmp_ne 95 dX5_sumUp_85 (by decide) (fun c29 => ?_) (fun c29 => ?_)
          · replace h := e_f c29 h
            refine w_aload_n 1 ((some (26))) dX5_sumUp_95 rfl rfl ?_
            refine w_get dX5_sumUp_96 fl_RX5_9 ⟨rfl, Or.inr ⟨rfl, by decide⟩⟩ (aFv_i rfl) ?_
            refine w_ineg dX5_sumUp_99 ?_
            refine w_sub [1, 2, 3] rfl ?_
            exact l_X5_sumUp_100 rec21 hrec21 _ _ _ _ _ _ _ h
          · replace h := e_t c29 h
            refine w_aload_n 0 ((some (a21))) dX5_sumUp_88 rfl rfl ?_
            refine w_get dX5_sumUp_89 fl_RX5_95 ⟨g28.1, Or.inl g28.2⟩ (aFv_i rfl) ?_
            refine w_goto 100 dX5_sumUp_92 (by decide) ?_
            refine w_sub [1, 2, 3] rfl ?_
            exact l_X5_sumUp_100 rec21 hrec21 _ _ _ _ _ _ _ h
theorem l_X5_sumUp_21  : ∀ (n : Nat) (x1 : Int32) (x2 : Int32) (σ : aSt) (o : Unit × aSt), f_X5_sumUp_21  n x1 x2 σ = some o → AW true m_X5_sumUp 21 [(0, va_rf (some (26))), (1, Value.int (x1)), (2, Value.int (x2))] [] σ 0 0 none o.2
  | 0 => fun x1 x2 σ o h => by cases h
  | n + 1 => fun x1 x2 σ o h => l_X5_sumUp_21_b (f_X5_sumUp_21  n) (l_X5_sumUp_21  n) x1 x2 σ o h
set_option maxRecDepth 100000 in
set_option maxHeartbeats 4000000 in
theorem c_X5_sumUp  (σ : aSt) (o : Unit × aSt) (h : f_X5_sumUp  σ = some o) : AM true m_X5_sumUp [va_rf (some (26))] σ none o.2 := by
  refine AM_of2 (lv := [(0, va_rf (some (26)))]) (by decide +kernel) rfl (Nat.le_of_ble_eq_true rfl) ?_
  unfold f_X5_sumUp at h
  refine w_aload_n 0 ((some (26))) dX5_sumUp_0 rfl rfl ?_
  refine w_get (v := va_rf (some 11)) dX5_sumUp_1 fl_RX5_53 ⟨rfl, Or.inr ⟨rfl, by decide⟩⟩ (aFv_k rfl) ?_
  refine w_get dX5_sumUp_4 fl_RX5_117 ⟨rfl, Or.inr ⟨rfl, by decide⟩⟩ (aFv_q (Or.inl rfl)) ?_
  replace h := e_oS h; obtain ⟨a1, r2, h⟩ := h
  rw [r2]
  replace h := e_grd h; obtain ⟨g5, h⟩ := h
  replace h := e_bind h; obtain ⟨q3, e4, h⟩ := h
  refine w_callV1 (M2 := m_X8_allRules) (av := []) (ci := 8) (c_X8_allRules _ _ _ e4) dX5_sumUp_7 kd_X8_allRules wd_43_18 wd_43_19 wd_43_20 rfl rfl ⟨g5.1, Or.inl g5.2⟩ rfl ⟨Nat.le_of_ble_eq_true rfl, Nat.le_of_ble_eq_true rfl, Nat.le_of_ble_eq_true rfl, Nat.le_of_ble_eq_true rfl⟩ (Nat.le_of_ble_eq_true rfl) ?_
  refine w_istore_n dX5_sumUp_10 rfl (by decide) rfl ?_
  refine w_aload_n 1 ((some (26))) dX5_sumUp_11 rfl rfl ?_
  refine w_get (v := va_rf (some 30)) dX5_sumUp_12 fl_RX5_46 ⟨rfl, Or.inr ⟨rfl, by decide⟩⟩ (aFv_k rfl) ?_
  refine w_iconst (v := 0) dX5_sumUp_15 (by decide) ?_
  replace h := e_bind h; obtain ⟨q6, e7, h⟩ := h
  refine w_callS0 (M2 := m_J7_fill_53178) (av := [va_rf (some (30)), .int (0)]) (c_J7_fill_53178 _ _ _ _ e7) dX5_sumUp_16 kd_J7_fill_53178 wd_43_22 wd_6_9 rfl rfl ⟨Nat.le_of_ble_eq_true rfl, Nat.le_of_ble_eq_true rfl, Nat.le_of_ble_eq_true rfl, Nat.le_of_ble_eq_true rfl⟩ (Nat.le_of_ble_eq_true rfl) ?_
  refine w_iconst (v := 0) dX5_sumUp_19 (by decide) ?_
  refine w_istore_n dX5_sumUp_20 rfl (by decide) rfl ?_
  refine w_sub [2, 1, 0] rfl ?_
  exact l_X5_sumUp_21 aN _ _ _ _ h
theorem dX5_learn_0 : decode cX5_learn 0 = .ok (.aload_n 0, 1) := by decide +kernel
theorem dX5_learn_1 : decode cX5_learn 1 = .ok (.invokevirtual 114, 3) := by decide +kernel
theorem dX5_learn_4 : decode cX5_learn 4 = .ok (.aload_n 0, 1) := by decide +kernel
theorem dX5_learn_5 : decode cX5_learn 5 = .ok (.getfield 53, 3) := by decide +kernel
theorem dX5_learn_8 : decode cX5_learn 8 = .ok (.getfield 117, 3) := by decide +kernel
theorem dX5_learn_11 : decode cX5_learn 11 = .ok (.invokevirtual 121, 3) := by decide +kernel
theorem dX5_learn_14 : decode cX5_learn 14 = .ok (.istore_n 1, 1) := by decide +kernel
theorem dX5_learn_15 : decode cX5_learn 15 = .ok (.iconst 0, 1) := by decide +kernel
theorem dX5_learn_16 : decode cX5_learn 16 = .ok (.istore_n 2, 1) := by decide +kernel
theorem dX5_learn_17 : decode cX5_learn 17 = .ok (.iconst 1, 1) := by decide +kernel
theorem dX5_learn_18 : decode cX5_learn 18 = .ok (.istore_n 3, 1) := by decide +kernel
theorem dX5_learn_19 : decode cX5_learn 19 = .ok (.iload_n 3, 1) := by decide +kernel
theorem dX5_learn_20 : decode cX5_learn 20 = .ok (.iload_n 1, 1) := by decide +kernel
theorem dX5_learn_21 : decode cX5_learn 21 = .ok (.if_icmp .gt 51, 3) := by decide +kernel
theorem dX5_learn_24 : decode cX5_learn 24 = .ok (.aload_n 0, 1) := by decide +kernel
theorem dX5_learn_25 : decode cX5_learn 25 = .ok (.getfield 46, 3) := by decide +kernel
theorem dX5_learn_28 : decode cX5_learn 28 = .ok (.iload_n 1, 1) := by decide +kernel
theorem dX5_learn_29 : decode cX5_learn 29 = .ok (.iload_n 3, 1) := by decide +kernel
theorem dX5_learn_30 : decode cX5_learn 30 = .ok (.ixor, 1) := by decide +kernel
theorem dX5_learn_31 : decode cX5_learn 31 = .ok (.iaload, 1) := by decide +kernel
theorem dX5_learn_32 : decode cX5_learn 32 = .ok (.aload_n 0, 1) := by decide +kernel
theorem dX5_learn_33 : decode cX5_learn 33 = .ok (.getfield 46, 3) := by decide +kernel
theorem dX5_learn_36 : decode cX5_learn 36 = .ok (.iload_n 1, 1) := by decide +kernel
theorem dX5_learn_37 : decode cX5_learn 37 = .ok (.iload_n 2, 1) := by decide +kernel
theorem dX5_learn_38 : decode cX5_learn 38 = .ok (.ixor, 1) := by decide +kernel
theorem dX5_learn_39 : decode cX5_learn 39 = .ok (.iaload, 1) := by decide +kernel
theorem dX5_learn_40 : decode cX5_learn 40 = .ok (.isub, 1) := by decide +kernel
theorem dX5_learn_41 : decode cX5_learn 41 = .ok (.istore 4, 2) := by decide +kernel
theorem dX5_learn_43 : decode cX5_learn 43 = .ok (.iload 4, 2) := by decide +kernel
theorem dX5_learn_45 : decode cX5_learn 45 = .ok (.ifCond .lt 19, 3) := by decide +kernel
theorem dX5_learn_48 : decode cX5_learn 48 = .ok (.iload 4, 2) := by decide +kernel
theorem dX5_learn_50 : decode cX5_learn 50 = .ok (.ifCond .ne 16, 3) := by decide +kernel
theorem dX5_learn_53 : decode cX5_learn 53 = .ok (.iload_n 3, 1) := by decide +kernel
theorem dX5_learn_54 : decode cX5_learn 54 = .ok (.invokestatic 125, 3) := by decide +kernel
theorem dX5_learn_57 : decode cX5_learn 57 = .ok (.iload_n 2, 1) := by decide +kernel
theorem dX5_learn_58 : decode cX5_learn 58 = .ok (.invokestatic 125, 3) := by decide +kernel
theorem dX5_learn_61 : decode cX5_learn 61 = .ok (.if_icmp .ge 5, 3) := by decide +kernel
theorem dX5_learn_64 : decode cX5_learn 64 = .ok (.iload_n 3, 1) := by decide +kernel
theorem dX5_learn_65 : decode cX5_learn 65 = .ok (.istore_n 2, 1) := by decide +kernel
theorem dX5_learn_66 : decode cX5_learn 66 = .ok (.iinc 3 1, 3) := by decide +kernel
theorem dX5_learn_69 : decode cX5_learn 69 = .ok (.goto (-50), 3) := by decide +kernel
theorem dX5_learn_72 : decode cX5_learn 72 = .ok (.iload_n 2, 1) := by decide +kernel
theorem dX5_learn_73 : decode cX5_learn 73 = .ok (.ireturn, 1) := by decide +kernel
theorem kd_X5_learn : aKd m_X5_learn 0 := ⟨wd_43_10, wd_2_9, ⟨by decide +kernel, by decide +kernel, by decide +kernel⟩⟩
set_option maxRecDepth 100000 in
set_option maxHeartbeats 4000000 in
theorem l_X5_learn_66 (rec19 : Int32 → Int32 → Int32 → aSt → Option (Int32 × aSt)) (hrec19 : ∀ (x1 : Int32) (x2 : Int32) (x3 : Int32) (σ : aSt) (o : Int32 × aSt), rec19 x1 x2 x3 σ = some o → AW true m_X5_learn 19 [(0, va_rf (some (26))), (1, Value.int (x1)), (2, Value.int (x2)), (3, Value.int (x3))] [] σ 0 0 (some (.int o.1)) o.2) (x1 : Int32) (x2 : Int32) (x3 : Int32) (σ : aSt) (o : Int32 × aSt) (h : f_X5_learn_66 rec19 x1 x2 x3 σ = some o) : AW true m_X5_learn 66 [(0, va_rf (some (26))), (1, Value.int (x1)), (2, Value.int (x2)), (3, Value.int (x3))] [] σ 0 0 (some (.int o.1)) o.2 := by
  unfold f_X5_learn_66 at h
  refine w_iinc (q := 3) (v := x3 + 1) dX5_learn_66 rfl rfl (by decide) rfl ?_
  refine w_goto 19 dX5_learn_69 (by decide) ?_
  refine w_sub [1, 2, 3, 0] rfl ?_
  exact hrec19 _ _ _ _ _ h
set_option maxRecDepth 100000 in
set_option maxHeartbeats 4000000 in
theorem l_X5_learn_64 (rec19 : Int32 → Int32 → Int32 → aSt → Option (Int32 × aSt)) (hrec19 : ∀ (x1 : Int32) (x2 : Int32) (x3 : Int32) (σ : aSt) (o : Int32 × aSt), rec19 x1 x2 x3 σ = some o → AW true m_X5_learn 19 [(0, va_rf (some (26))), (1, Value.int (x1)), (2, Value.int (x2)), (3, Value.int (x3))] [] σ 0 0 (some (.int o.1)) o.2) (x1 : Int32) (x3 : Int32) (σ : aSt) (o : Int32 × aSt) (h : f_X5_learn_64 rec19 x1 x3 σ = some o) : AW true m_X5_learn 64 [(0, va_rf (some (26))), (1, Value.int (x1)), (3, Value.int (x3))] [] σ 0 0 (some (.int o.1)) o.2 := by
  unfold f_X5_learn_64 at h
  refine w_iload_n 2 dX5_learn_64 rfl rfl ?_
  refine w_istore_n dX5_learn_65 rfl (by decide) rfl ?_
  refine w_sub [1, 2, 0, 3] rfl ?_
  exact l_X5_learn_66 rec19 hrec19 _ _ _ _ _ h
set_option maxRecDepth 100000 in
set_option maxHeartbeats 4000000 in
theorem l_X5_learn_19_b (rec19 : Int32 → Int32 → Int32 → aSt → Option (Int32 × aSt)) (hrec19 : ∀ (x1 : Int32) (x2 : Int32) (x3 : Int32) (σ : aSt) (o : Int32 × aSt), rec19 x1 x2 x3 σ = some o → AW true m_X5_learn 19 [(0, va_rf (some (26))), (1, Value.int (x1)), (2, Value.int (x2)), (3, Value.int (x3))] [] σ 0 0 (some (.int o.1)) o.2) (x1 : Int32) (x2 : Int32) (x3 : Int32) (σ : aSt) (o : Int32 × aSt) (h : f_X5_learn_19_b rec19 x1 x2 x3 σ = some o) : AW true m_X5_learn 19 [(0, va_rf (some (26))), (1, Value.int (x1)), (2, Value.int (x2)), (3, Value.int (x3))] [] σ 0 0 (some (.int o.1)) o.2 := by
  unfold f_X5_learn_19_b at h
  refine w_iload_n 3 dX5_learn_19 rfl rfl ?_
  refine w_iload_n 1 dX5_learn_20 rfl rfl ?_
  refine w_icmp_gt 72 dX5_learn_21 (by decide) (fun c8 => ?_) (fun c8 => ?_)
  · replace h := e_t c8 h
    refine w_iload_n 2 dX5_learn_72 rfl rfl ?_
    obtain rfl := Option.some.inj h
    exact w_ireturn dX5_learn_73 rfl (Nat.le_of_ble_eq_true rfl) (Nat.le_of_ble_eq_true rfl)
  · replace h := e_f c8 h
    refine w_aload_n 0 ((some (26))) dX5_learn_24 rfl rfl ?_
    refine w_get (v := va_rf (some 30)) dX5_learn_25 fl_RX5_46 ⟨rfl, Or.inr ⟨rfl, by decide⟩⟩ (aFv_k rfl) ?_
    refine w_iload_n 1 dX5_learn_28 rfl rfl ?_
    refine w_iload_n 3 dX5_learn_29 rfl rfl ?_
    refine w_ixor dX5_learn_30 ?_
    replace h := e_grd h; obtain ⟨b9, h⟩ := h
    refine w_iaload dX5_learn_31 ⟨rfl, Or.inr ⟨rfl, by decide⟩⟩ b9 ?_
    refine w_aload_n 0 ((some (26))) dX5_learn_32 rfl rfl ?_
    refine w_get (v := va_rf (some 30)) dX5_learn_33 fl_RX5_46 ⟨rfl, Or.inr ⟨rfl, by decide⟩⟩ (aFv_k rfl) ?_
    refine w_iload_n 1 dX5_learn_36 rfl rfl ?_
    refine w_iload_n 2 dX5_learn_37 rfl rfl ?_
    refine w_ixor dX5_learn_38 ?_
    replace h := e_grd h; obtain ⟨b10, h⟩ := h
    refine w_iaload dX5_learn_39 ⟨rfl, Or.inr ⟨rfl, by decide⟩⟩ b10 ?_
    refine w_isub dX5_learn_40 ?_
    refine w_istore dX5_learn_41 (by decide) rfl ?_
    refine w_iload 0 dX5_learn_43 rfl ?_
    refine w_if_lt 64 dX5_learn_45 (by decide) (fun c11 => ?_) (fun c11 => ?_)
    · replace h := e_t c11 h
      refine w_sub [1, 2, 4] rfl ?_
      exact l_X5_learn_64 rec19 hrec19 _ _ _ _ h
    · replace h := e_f c11 h
      refine w_iload 0 dX5_learn_48 rfl ?_
      refine w_if_ne 66 dX5_learn_50 (by decide) (fun c12 => ?_) (fun c12 => ?_)
      · replace h := e_f c12 h
        refine w_sub [1, 2, 3, 4] rfl ?_
        exact l_X5_learn_66 rec19 hrec19 _ _ _ _ _ h
      · replace h := e_t c12 h
        refine w_iload_n 4 dX5_learn_53 rfl rfl ?_
        replace h := e_bind h; obtain ⟨q13, e14, h⟩ := h
        refine w_callS1 (M2 := m_J6_bitCount_0f7a4) (av := [.int (x3)]) (c_J6_bitCount_0f7a4 _ _ _ e14) dX5_learn_54 kd_J6_bitCount_0f7a4 wd_44_0 wd_19_23 rfl rfl ⟨Nat.le_of_ble_eq_true rfl, Nat.le_of_ble_eq_true rfl, Nat.le_of_ble_eq_true rfl, Nat.le_of_ble_eq_true rfl⟩ (Nat.le_of_ble_eq_true rfl) ?_
        refine w_iload_n 3 dX5_learn_57 rfl rfl ?_
        replace h := e_bind h; obtain ⟨q15, e16, h⟩ := h
        refine w_callS1 (M2 := m_J6_bitCount_0f7a4) (av := [.int (x2)]) (c_J6_bitCount_0f7a4 _ _ _ e16) dX5_learn_58 kd_J6_bitCount_0f7a4 wd_44_0 wd_19_23 rfl rfl ⟨Nat.le_of_ble_eq_true rfl, Nat.le_of_ble_eq_true rfl, Nat.le_of_ble_eq_true rfl, Nat.le_of_ble_eq_true rfl⟩ (Nat.le_of_ble_eq_true rfl) ?_
        refine w_icmp_ge 66 dX5_learn_61 (by decide) (fun c17 => ?_) (fun c17 => ?_)
        · replace h := e_t c17 h
          refine w_sub [1, 2, 3, 4] rfl ?_
          exact l_X5_learn_66 rec19 hrec19 _ _ _ _ _ h
        · replace h := e_f c17 h
          refine w_sub [1, 2, 4] rfl ?_
          exact l_X5_learn_64 rec19 hrec19 _ _ _ _ h
theorem l_X5_learn_19  : ∀ (n : Nat) (x1 : Int32) (x2 : Int32) (x3 : Int32) (σ : aSt) (o : Int32 × aSt), f_X5_learn_19  n x1 x2 x3 σ = some o → AW true m_X5_learn 19 [(0, va_rf (some (26))), (1, Value.int (x1)), (2, Value.int (x2)), (3, Value.int (x3))] [] σ 0 0 (some (.int o.1)) o.2
  | 0 => fun x1 x2 x3 σ o h => by cases h
  | n + 1 => fun x1 x2 x3 σ o h => l_X5_learn_19_b (f_X5_learn_19  n) (l_X5_learn_19  n) x1 x2 x3 σ o h
set_option maxRecDepth 100000 in
set_option maxHeartbeats 4000000 in
theorem c_X5_learn  (σ : aSt) (o : Int32 × aSt) (h : f_X5_learn  σ = some o) : AM true m_X5_learn [va_rf (some (26))] σ (some (.int o.1)) o.2 := by
  refine AM_of2 (lv := [(0, va_rf (some (26)))]) (by decide +kernel) rfl (Nat.le_of_ble_eq_true rfl) ?_
  unfold f_X5_learn at h
  refine w_aload_n 0 ((some (26))) dX5_learn_0 rfl rfl ?_
  replace h := e_bind h; obtain ⟨q1, e2, h⟩ := h
  refine w_callV0 (M2 := m_X5_sumUp) (av := []) (ci := 5) (c_X5_sumUp  _ _ e2) dX5_learn_1 kd_X5_sumUp wd_43_12 wd_43_13 wd_43_14 rfl rfl ⟨rfl, Or.inr ⟨rfl, by decide⟩⟩ rfl ⟨Nat.le_of_ble_eq_true rfl, Nat.le_of_ble_eq_true rfl, Nat.le_of_ble_eq_true rfl, Nat.le_of_ble_eq_true rfl⟩ (Nat.le_of_ble_eq_true rfl) ?_
  refine w_aload_n 0 ((some (26))) dX5_learn_4 rfl rfl ?_
  refine w_get (v := va_rf (some 11)) dX5_learn_5 fl_RX5_53 ⟨rfl, Or.inr ⟨rfl, by decide⟩⟩ (aFv_k rfl) ?_
  refine w_get dX5_learn_8 fl_RX5_117 ⟨rfl, Or.inr ⟨rfl, by decide⟩⟩ (aFv_q (Or.inl rfl)) ?_
  replace h := e_oS h; obtain ⟨a3, r4, h⟩ := h
  rw [r4]
  replace h := e_grd h; obtain ⟨g7, h⟩ := h
  replace h := e_bind h; obtain ⟨q5, e6, h⟩ := h
  refine w_callV1 (M2 := m_X8_allRules) (av := []) (ci := 8) (c_X8_allRules _ _ _ e6) dX5_learn_11 kd_X8_allRules wd_43_18 wd_43_19 wd_43_20 rfl rfl ⟨g7.1, Or.inl g7.2⟩ rfl ⟨Nat.le_of_ble_eq_true rfl, Nat.le_of_ble_eq_true rfl, Nat.le_of_ble_eq_true rfl, Nat.le_of_ble_eq_true rfl⟩ (Nat.le_of_ble_eq_true rfl) ?_
  refine w_istore_n dX5_learn_14 rfl (by decide) rfl ?_
  refine w_iconst (v := 0) dX5_learn_15 (by decide) ?_
  refine w_istore_n dX5_learn_16 rfl (by decide) rfl ?_
  refine w_iconst (v := 1) dX5_learn_17 (by decide) ?_
  refine w_istore_n dX5_learn_18 rfl (by decide) rfl ?_
  refine w_sub [3, 2, 1, 0] rfl ?_
  exact l_X5_learn_19 aN _ _ _ _ _ h
