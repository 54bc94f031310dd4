theorem dX11_within_0 : decode cX11_within 0 = .ok (.iload_n 0, 1) := by decide +kernel
theorem dX11_within_1 : decode cX11_within 1 = .ok (.iload_n 1, 1) := by decide +kernel
theorem dX11_within_2 : decode cX11_within 2 = .ok (.if_icmp .lt 12, 3) := by decide +kernel
theorem dX11_within_5 : decode cX11_within 5 = .ok (.iload_n 0, 1) := by decide +kernel
theorem dX11_within_6 : decode cX11_within 6 = .ok (.iload_n 2, 1) := by decide +kernel
theorem dX11_within_7 : decode cX11_within 7 = .ok (.if_icmp .gt 7, 3) := by decide +kernel
theorem dX11_within_10 : decode cX11_within 10 = .ok (.iconst 1, 1) := by decide +kernel
theorem dX11_within_11 : decode cX11_within 11 = .ok (.goto 4, 3) := by decide +kernel
theorem dX11_within_14 : decode cX11_within 14 = .ok (.iconst 0, 1) := by decide +kernel
theorem dX11_within_15 : decode cX11_within 15 = .ok (.ireturn, 1) := by decide +kernel
theorem kd_X11_within : aKd m_X11_within 3 := ⟨wd_10_0, wd_1_2, ⟨by decide +kernel, by decide +kernel, by decide +kernel⟩⟩
set_option maxRecDepth 100000 in
set_option maxHeartbeats 4000000 in
theorem l_X11_within_15  (t0 : Int32) (σ : aSt) (o : Int32 × aSt) (h : f_X11_within_15  t0 σ = some o) : AW true m_X11_within 15 [] [.int (t0)] σ 0 0 (some (.int o.1)) o.2 := by
  unfold f_X11_within_15 at h
  replace h := e_grd h; obtain ⟨g3, h⟩ := h
  obtain rfl := Option.some.inj h
  exact w_zreturn dX11_within_15 rfl (e_nz g3) (Nat.le_of_ble_eq_true rfl) (Nat.le_of_ble_eq_true rfl)
set_option maxRecDepth 100000 in
set_option maxHeartbeats 4000000 in
theorem l_X11_within_14   (σ : aSt) (o : Int32 × aSt) (h : f_X11_within_14   σ = some o) : AW true m_X11_within 14 [] [] σ 0 0 (some (.int o.1)) o.2 := by
  unfold f_X11_within_14 at h
  refine w_iconst (v := 0) dX11_within_14 (by decide) ?_
  exact l_X11_within_15 _ _ _ h
set_option maxRecDepth 100000 in
set_option maxHeartbeats 4000000 in
theorem c_X11_within (p0 : Int32) (p1 : Int32) (p2 : Int32) (σ : aSt) (o : Int32 × aSt) (h : f_X11_within p0 p1 p2 σ = some o) : AM true m_X11_within [.int (p0), .int (p1), .int (p2)] σ (some (.int o.1)) o.2 := by
  refine AM_of2 (lv := [(0, Value.int (p0)), (1, Value.int (p1)), (2, Value.int (p2))]) (by decide +kernel) rfl (Nat.le_of_ble_eq_true rfl) ?_
  unfold f_X11_within at h
  refine w_iload_n 0 dX11_within_0 rfl rfl ?_
  refine w_iload_n 1 dX11_within_1 rfl rfl ?_
  refine w_icmp_lt 14 dX11_within_2 (by decide) (fun c1 => ?_) (fun c1 => ?_)
  · replace h := e_t c1 h
    refine w_sub [] rfl ?_
    exact l_X11_within_14 _ _ h
  · replace h := e_f c1 h
    refine w_iload_n 0 dX11_within_5 rfl rfl ?_
    refine w_iload_n 2 dX11_within_6 rfl rfl ?_
    refine w_icmp_gt 14 dX11_within_7 (by decide) (fun c2 => ?_) (fun c2 => ?_)
    · replace h := e_t c2 h
      refine w_sub [] rfl ?_
      exact l_X11_within_14 _ _ h
    · replace h := e_f c2 h
      refine w_iconst (v := 1) dX11_within_10 (by decide) ?_
      refine w_goto 15 dX11_within_11 (by decide) ?_
      refine w_sub [] rfl ?_
      exact l_X11_within_15 _ _ _ h
theorem dX11_isSheet_0 : decode cX11_isSheet 0 = .ok (.iload_n 0, 1) := by decide +kernel
theorem dX11_isSheet_1 : decode cX11_isSheet 1 = .ok (.iconst 0, 1) := by decide +kernel
theorem dX11_isSheet_2 : decode cX11_isSheet 2 = .ok (.bipush 7, 2) := by decide +kernel
theorem dX11_isSheet_4 : decode cX11_isSheet 4 = .ok (.invokestatic 89, 3) := by decide +kernel
theorem dX11_isSheet_7 : decode cX11_isSheet 7 = .ok (.ireturn, 1) := by decide +kernel
theorem kd_X11_isSheet : aKd m_X11_isSheet 1 := ⟨wd_9_21, wd_1_2, ⟨by decide +kernel, by decide +kernel, by decide +kernel⟩⟩
set_option maxRecDepth 100000 in
set_option maxHeartbeats 4000000 in
theorem c_X11_isSheet (p0 : Int32) (σ : aSt) (o : Int32 × aSt) (h : f_X11_isSheet p0 σ = some o) : AM true m_X11_isSheet [.int (p0)] σ (some (.int o.1)) o.2 := by
  refine AM_of2 (lv := [(0, Value.int (p0))]) (by decide +kernel) rfl (Nat.le_of_ble_eq_true rfl) ?_
  unfold f_X11_isSheet at h
  refine w_iload_n 0 dX11_isSheet_0 rfl rfl ?_
  refine w_iconst (v := 0) dX11_isSheet_1 (by decide) ?_
  refine w_bipush (v := 7) dX11_isSheet_2 (by decide) ?_
  replace h := e_bind h; obtain ⟨q1, e2, h⟩ := h
  refine w_callS1 (M2 := m_X11_within) (av := [.int (p0), .int (0), .int (7)]) (c_X11_within _ _ _ _ _ e2) dX11_isSheet_4 kd_X11_within wd_9_22 wd_9_23 rfl rfl ⟨Nat.le_of_ble_eq_true rfl, Nat.le_of_ble_eq_true rfl, Nat.le_of_ble_eq_true rfl, Nat.le_of_ble_eq_true rfl⟩ (Nat.le_of_ble_eq_true rfl) ?_
  replace h := e_grd h; obtain ⟨g3, h⟩ := h
  obtain rfl := Option.some.inj h
  exact w_zreturn dX11_isSheet_7 rfl (e_nz g3) (Nat.le_of_ble_eq_true rfl) (Nat.le_of_ble_eq_true rfl)
theorem dX11_found_0 : decode cX11_found 0 = .ok (.aload_n 0, 1) := by decide +kernel
theorem dX11_found_1 : decode cX11_found 1 = .ok (.iload_n 1, 1) := by decide +kernel
theorem dX11_found_2 : decode cX11_found 2 = .ok (.putfield 81, 3) := by decide +kernel
theorem dX11_found_5 : decode cX11_found 5 = .ok (.ldc_w 346, 3) := by decide +kernel
theorem dX11_found_8 : decode cX11_found 8 = .ok (.iload_n 1, 1) := by decide +kernel
theorem dX11_found_9 : decode cX11_found 9 = .ok (.isub, 1) := by decide +kernel
theorem dX11_found_10 : decode cX11_found 10 = .ok (.ireturn, 1) := by decide +kernel
theorem kd_X11_found : aKd m_X11_found 1 := ⟨wd_10_4, wd_1_2, ⟨by decide +kernel, by decide +kernel, by decide +kernel⟩⟩
set_option maxRecDepth 100000 in
set_option maxHeartbeats 4000000 in
theorem c_X11_found (p1 : Int32) (σ : aSt) (o : Int32 × aSt) (h : f_X11_found p1 σ = some o) : AM true m_X11_found [va_rf (some (0)), .int (p1)] σ (some (.int o.1)) o.2 := by
  refine AM_of2 (lv := [(0, va_rf (some (0))), (1, Value.int (p1))]) (by decide +kernel) rfl (Nat.le_of_ble_eq_true rfl) ?_
  unfold f_X11_found at h
  refine w_aload_n 0 ((some (0))) dX11_found_0 rfl rfl ?_
  refine w_iload_n 1 dX11_found_1 rfl rfl ?_
  refine w_putI dX11_found_2 fl_RX11_81 (Or.inl rfl) rfl ⟨rfl, Or.inr ⟨rfl, by decide⟩⟩ ?_
  refine w_ldcw (v := (-1000010)) dX11_found_5 wd_10_5 ?_
  refine w_iload_n 1 dX11_found_8 rfl rfl ?_
  refine w_isub dX11_found_9 ?_
  obtain rfl := Option.some.inj h
  exact w_ireturn dX11_found_10 rfl (Nat.le_of_ble_eq_true rfl) (Nat.le_of_ble_eq_true rfl)
theorem dJ7_fill_53178_0 : decode cJ7_fill_53178 0 = .ok (.iconst 0, 1) := by decide +kernel
theorem dJ7_fill_53178_1 : decode cJ7_fill_53178 1 = .ok (.istore_n 2, 1) := by decide +kernel
theorem dJ7_fill_53178_2 : decode cJ7_fill_53178 2 = .ok (.aload_n 0, 1) := by decide +kernel
theorem dJ7_fill_53178_3 : decode cJ7_fill_53178 3 = .ok (.arraylength, 1) := by decide +kernel
theorem dJ7_fill_53178_4 : decode cJ7_fill_53178 4 = .ok (.istore_n 3, 1) := by decide +kernel
theorem dJ7_fill_53178_5 : decode cJ7_fill_53178 5 = .ok (.iload_n 2, 1) := by decide +kernel
theorem dJ7_fill_53178_6 : decode cJ7_fill_53178 6 = .ok (.iload_n 3, 1) := by decide +kernel
theorem dJ7_fill_53178_7 : decode cJ7_fill_53178 7 = .ok (.if_icmp .ge 13, 3) := by decide +kernel
theorem dJ7_fill_53178_10 : decode cJ7_fill_53178 10 = .ok (.aload_n 0, 1) := by decide +kernel
theorem dJ7_fill_53178_11 : decode cJ7_fill_53178 11 = .ok (.iload_n 2, 1) := by decide +kernel
theorem dJ7_fill_53178_12 : decode cJ7_fill_53178 12 = .ok (.iload_n 1, 1) := by decide +kernel
theorem dJ7_fill_53178_13 : decode cJ7_fill_53178 13 = .ok (.iastore, 1) := by decide +kernel
theorem dJ7_fill_53178_14 : decode cJ7_fill_53178 14 = .ok (.iinc 2 1, 3) := by decide +kernel
theorem dJ7_fill_53178_17 : decode cJ7_fill_53178 17 = .ok (.goto (-12), 3) := by decide +kernel
theorem dJ7_fill_53178_20 : decode cJ7_fill_53178 20 = .ok (.return_, 1) := by decide +kernel
theorem kd_J7_fill_53178 : aKd m_J7_fill_53178 2 := ⟨wd_6_11, wd_6_10, ⟨by decide +kernel, by decide +kernel, by decide +kernel⟩⟩
set_option maxRecDepth 100000 in
set_option maxHeartbeats 4000000 in
theorem l_J7_fill_53178_5_b (rec5 : Nat → Int32 → Int32 → Int32 → aSt → Option (Unit × aSt)) (hrec5 : ∀ (x0 : Nat) (x1 : Int32) (x2 : Int32) (x3 : Int32) (σ : aSt) (o : Unit × aSt), rec5 x0 x1 x2 x3 σ = some o → AW true m_J7_fill_53178 5 [(0, va_rf (some (x0))), (1, Value.int (x1)), (2, Value.int (x2)), (3, Value.int (x3))] [] σ 0 0 none o.2) (x0 : Nat) (x1 : Int32) (x2 : Int32) (x3 : Int32) (σ : aSt) (o : Unit × aSt) (h : f_J7_fill_53178_5_b rec5 x0 x1 x2 x3 σ = some o) : AW true m_J7_fill_53178 5 [(0, va_rf (some (x0))), (1, Value.int (x1)), (2, Value.int (x2)), (3, Value.int (x3))] [] σ 0 0 none o.2 := by
  unfold f_J7_fill_53178_5_b at h
  refine w_iload_n 2 dJ7_fill_53178_5 rfl rfl ?_
  refine w_iload_n 3 dJ7_fill_53178_6 rfl rfl ?_
  refine w_icmp_ge 20 dJ7_fill_53178_7 (by decide) (fun c2 => ?_) (fun c2 => ?_)
  · replace h := e_t c2 h
    obtain rfl := Option.some.inj h
    exact w_vreturn dJ7_fill_53178_20 rfl (Nat.le_of_ble_eq_true rfl) (Nat.le_of_ble_eq_true rfl)
  · replace h := e_f c2 h
    refine w_aload_n 0 ((some (x0))) dJ7_fill_53178_10 rfl rfl ?_
    refine w_iload_n 2 dJ7_fill_53178_11 rfl rfl ?_
    refine w_iload_n 1 dJ7_fill_53178_12 rfl rfl ?_
    replace h := e_grd h; obtain ⟨g3, h⟩ := h
    replace h := e_grd h; obtain ⟨b4, h⟩ := h
    refine w_iastore dJ7_fill_53178_13 ⟨g3.1, Or.inl g3.2⟩ b4 ?_
    refine w_iinc (q := 2) (v := x2 + 1) dJ7_fill_53178_14 rfl rfl (by decide) rfl ?_
    refine w_goto 5 dJ7_fill_53178_17 (by decide) ?_
    refine w_sub [1, 2, 0, 3] rfl ?_
    exact hrec5 _ _ _ _ _ _ h
theorem l_J7_fill_53178_5  : ∀ (n : Nat) (x0 : Nat) (x1 : Int32) (x2 : Int32) (x3 : Int32) (σ : aSt) (o : Unit × aSt), f_J7_fill_53178_5  n x0 x1 x2 x3 σ = some o → AW true m_J7_fill_53178 5 [(0, va_rf (some (x0))), (1, Value.int (x1)), (2, Value.int (x2)), (3, Value.int (x3))] [] σ 0 0 none o.2
  | 0 => fun x0 x1 x2 x3 σ o h => by cases h
  | n + 1 => fun x0 x1 x2 x3 σ o h => l_J7_fill_53178_5_b (f_J7_fill_53178_5  n) (l_J7_fill_53178_5  n) x0 x1 x2 x3 σ o h
set_option maxRecDepth 100000 in
set_option maxHeartbeats 4000000 in
theorem c_J7_fill_53178 (p0 : Nat) (p1 : Int32) (σ : aSt) (o : Unit × aSt) (h : f_J7_fill_53178 p0 p1 σ = some o) : AM true m_J7_fill_53178 [va_rf (some (p0)), .int (p1)] σ none o.2 := by
  refine AM_of2 (lv := [(0, va_rf (some (p0))), (1, Value.int (p1))]) (by decide +kernel) rfl (Nat.le_of_ble_eq_true rfl) ?_
  unfold f_J7_fill_53178 at h
  refine w_iconst (v := 0) dJ7_fill_53178_0 (by decide) ?_
  refine w_istore_n dJ7_fill_53178_1 rfl (by decide) rfl ?_
  refine w_aload_n 1 ((some (p0))) dJ7_fill_53178_2 rfl rfl ?_
  replace h := e_grd h; obtain ⟨g1, h⟩ := h
  refine w_alenI dJ7_fill_53178_3 ⟨g1.1, Or.inl g1.2⟩ ?_
  refine w_istore_n dJ7_fill_53178_4 rfl (by decide) rfl ?_
  refine w_sub [2, 3, 1, 0] rfl ?_
  exact l_J7_fill_53178_5 aN _ _ _ _ _ _ h
theorem dX9_lay_0 : decode cX9_lay 0 = .ok (.aload_n 0, 1) := by decide +kernel
theorem dX9_lay_1 : decode cX9_lay 1 = .ok (.getfield 9, 3) := by decide +kernel
theorem dX9_lay_4 : decode cX9_lay 4 = .ok (.iconst 0, 1) := by decide +kernel
theorem dX9_lay_5 : decode cX9_lay 5 = .ok (.invokestatic 26, 3) := by decide +kernel
theorem dX9_lay_8 : decode cX9_lay 8 = .ok (.aload_n 0, 1) := by decide +kernel
theorem dX9_lay_9 : decode cX9_lay 9 = .ok (.iconst 1, 1) := by decide +kernel
theorem dX9_lay_10 : decode cX9_lay 10 = .ok (.putfield 15, 3) := by decide +kernel
theorem dX9_lay_13 : decode cX9_lay 13 = .ok (.aload_n 0, 1) := by decide +kernel
theorem dX9_lay_14 : decode cX9_lay 14 = .ok (.iload_n 1, 1) := by decide +kernel
theorem dX9_lay_15 : decode cX9_lay 15 = .ok (.putfield 19, 3) := by decide +kernel
theorem dX9_lay_18 : decode cX9_lay 18 = .ok (.aload_n 0, 1) := by decide +kernel
theorem dX9_lay_19 : decode cX9_lay 19 = .ok (.iload_n 2, 1) := by decide +kernel
theorem dX9_lay_20 : decode cX9_lay 20 = .ok (.putfield 23, 3) := by decide +kernel
theorem dX9_lay_23 : decode cX9_lay 23 = .ok (.return_, 1) := by decide +kernel
theorem kd_X9_lay : aKd m_X9_lay 2 := ⟨wd_10_9, wd_3_2, ⟨by decide +kernel, by decide +kernel, by decide +kernel⟩⟩
set_option maxRecDepth 100000 in
set_option maxHeartbeats 4000000 in
theorem c_X9_lay (p0 : Nat) (p1 : Int32) (p2 : Int32) (σ : aSt) (o : Unit × aSt) (h : f_X9_lay p0 p1 p2 σ = some o) : AM true m_X9_lay [va_rf (some (p0)), .int (p1), .int (p2)] σ none o.2 := by
  refine AM_of2 (lv := [(0, va_rf (some (p0))), (1, Value.int (p1)), (2, Value.int (p2))]) (by decide +kernel) rfl (Nat.le_of_ble_eq_true rfl) ?_
  unfold f_X9_lay at h
  refine w_aload_n 0 ((some (p0))) dX9_lay_0 rfl rfl ?_
  replace h := e_grd h; obtain ⟨g1, h⟩ := h
  refine w_get (v := va_rf (some ((p0 + 1)))) dX9_lay_1 fl_RX9_9 ⟨g1.1, Or.inl g1.2⟩ (aFv_k rfl) ?_
  refine w_iconst (v := 0) dX9_lay_4 (by decide) ?_
  replace h := e_bind h; obtain ⟨q2, e3, h⟩ := h
  refine w_callS0 (M2 := m_J7_fill_53178) (av := [va_rf (some ((p0 + 1))), .int (0)]) (c_J7_fill_53178 _ _ _ _ e3) dX9_lay_5 kd_J7_fill_53178 wd_10_10 wd_6_9 rfl rfl ⟨Nat.le_of_ble_eq_true rfl, Nat.le_of_ble_eq_true rfl, Nat.le_of_ble_eq_true rfl, Nat.le_of_ble_eq_true rfl⟩ (Nat.le_of_ble_eq_true rfl) ?_
  refine w_aload_n 0 ((some (p0))) dX9_lay_8 rfl rfl ?_
  refine w_iconst (v := 1) dX9_lay_9 (by decide) ?_
  replace h := e_grd h; obtain ⟨g4, h⟩ := h
  refine w_putZ dX9_lay_10 fl_RX9_15 (Or.inl rfl) rfl ⟨g4.1, Or.inl g4.2⟩ rfl rfl ?_
  refine w_aload_n 0 ((some (p0))) dX9_lay_13 rfl rfl ?_
  refine w_iload_n 1 dX9_lay_14 rfl rfl ?_
  refine w_putI dX9_lay_15 fl_RX9_19 (Or.inl rfl) rfl ⟨g4.1, Or.inl g4.2⟩ ?_
  refine w_aload_n 0 ((some (p0))) dX9_lay_18 rfl rfl ?_
  refine w_iload_n 2 dX9_lay_19 rfl rfl ?_
  refine w_putI dX9_lay_20 fl_RX9_23 (Or.inl rfl) rfl ⟨g4.1, Or.inl g4.2⟩ ?_
  obtain rfl := Option.some.inj h
  exact w_vreturn dX9_lay_23 rfl (Nat.le_of_ble_eq_true rfl) (Nat.le_of_ble_eq_true rfl)
theorem dX11_unhurt_0 : decode cX11_unhurt 0 = .ok (.aload_n 0, 1) := by decide +kernel
theorem dX11_unhurt_1 : decode cX11_unhurt 1 = .ok (.iconst 0, 1) := by decide +kernel
theorem dX11_unhurt_2 : decode cX11_unhurt 2 = .ok (.putfield 81, 3) := by decide +kernel
theorem dX11_unhurt_5 : decode cX11_unhurt 5 = .ok (.iload_n 1, 1) := by decide +kernel
theorem dX11_unhurt_6 : decode cX11_unhurt 6 = .ok (.ireturn, 1) := by decide +kernel
theorem kd_X11_unhurt : aKd m_X11_unhurt 1 := ⟨wd_10_14, wd_1_2, ⟨by decide +kernel, by decide +kernel, by decide +kernel⟩⟩
set_option maxRecDepth 100000 in
set_option maxHeartbeats 4000000 in
theorem c_X11_unhurt (p1 : Int32) (σ : aSt) (o : Int32 × aSt) (h : f_X11_unhurt p1 σ = some o) : AM true m_X11_unhurt [va_rf (some (0)), .int (p1)] σ (some (.int o.1)) o.2 := by
  refine AM_of2 (lv := [(0, va_rf (some (0))), (1, Value.int (p1))]) (by decide +kernel) rfl (Nat.le_of_ble_eq_true rfl) ?_
  unfold f_X11_unhurt at h
  refine w_aload_n 0 ((some (0))) dX11_unhurt_0 rfl rfl ?_
  refine w_iconst (v := 0) dX11_unhurt_1 (by decide) ?_
  refine w_putI dX11_unhurt_2 fl_RX11_81 (Or.inl rfl) rfl ⟨rfl, Or.inr ⟨rfl, by decide⟩⟩ ?_
  refine w_iload_n 1 dX11_unhurt_5 rfl rfl ?_
  obtain rfl := Option.some.inj h
  exact w_ireturn dX11_unhurt_6 rfl (Nat.le_of_ble_eq_true rfl) (Nat.le_of_ble_eq_true rfl)
theorem dX11_sheet_0 : decode cX11_sheet 0 = .ok (.iload_n 1, 1) := by decide +kernel
theorem dX11_sheet_1 : decode cX11_sheet 1 = .ok (.invokestatic 85, 3) := by decide +kernel
theorem dX11_sheet_4 : decode cX11_sheet 4 = .ok (.ifCond .eq 18, 3) := by decide +kernel
theorem dX11_sheet_7 : decode cX11_sheet 7 = .ok (.iload_n 2, 1) := by decide +kernel
theorem dX11_sheet_8 : decode cX11_sheet 8 = .ok (.iconst 0, 1) := by decide +kernel
theorem dX11_sheet_9 : decode cX11_sheet 9 = .ok (.iconst 2, 1) := by decide +kernel
theorem dX11_sheet_10 : decode cX11_sheet 10 = .ok (.invokestatic 89, 3) := by decide +kernel
theorem dX11_sheet_13 : decode cX11_sheet 13 = .ok (.ifCond .eq 9, 3) := by decide +kernel
theorem dX11_sheet_16 : decode cX11_sheet 16 = .ok (.iload_n 3, 1) := by decide +kernel
theorem dX11_sheet_17 : decode cX11_sheet 17 = .ok (.bipush 120, 2) := by decide +kernel
theorem dX11_sheet_19 : decode cX11_sheet 19 = .ok (.if_icmp .le 6, 3) := by decide +kernel
theorem dX11_sheet_22 : decode cX11_sheet 22 = .ok (.ldc 93, 2) := by decide +kernel
theorem dX11_sheet_24 : decode cX11_sheet 24 = .ok (.ireturn, 1) := by decide +kernel
theorem dX11_sheet_25 : decode cX11_sheet 25 = .ok (.iload_n 3, 1) := by decide +kernel
theorem dX11_sheet_26 : decode cX11_sheet 26 = .ok (.ifCond .ge 9, 3) := by decide +kernel
theorem dX11_sheet_29 : decode cX11_sheet 29 = .ok (.aload_n 0, 1) := by decide +kernel
theorem dX11_sheet_30 : decode cX11_sheet 30 = .ok (.iconst 4, 1) := by decide +kernel
theorem dX11_sheet_31 : decode cX11_sheet 31 = .ok (.invokevirtual 94, 3) := by decide +kernel
theorem dX11_sheet_34 : decode cX11_sheet 34 = .ok (.ireturn, 1) := by decide +kernel
theorem dX11_sheet_35 : decode cX11_sheet 35 = .ok (.aload_n 0, 1) := by decide +kernel
theorem dX11_sheet_36 : decode cX11_sheet 36 = .ok (.getfield 11, 3) := by decide +kernel
theorem dX11_sheet_39 : decode cX11_sheet 39 = .ok (.iload_n 1, 1) := by decide +kernel
theorem dX11_sheet_40 : decode cX11_sheet 40 = .ok (.aaload, 1) := by decide +kernel
theorem dX11_sheet_41 : decode cX11_sheet 41 = .ok (.iload_n 2, 1) := by decide +kernel
theorem dX11_sheet_42 : decode cX11_sheet 42 = .ok (.iload_n 3, 1) := by decide +kernel
theorem dX11_sheet_43 : decode cX11_sheet 43 = .ok (.invokevirtual 98, 3) := by decide +kernel
theorem dX11_sheet_46 : decode cX11_sheet 46 = .ok (.aload_n 0, 1) := by decide +kernel
theorem dX11_sheet_47 : decode cX11_sheet 47 = .ok (.iload_n 3, 1) := by decide +kernel
theorem dX11_sheet_48 : decode cX11_sheet 48 = .ok (.invokevirtual 102, 3) := by decide +kernel
theorem dX11_sheet_51 : decode cX11_sheet 51 = .ok (.ireturn, 1) := by decide +kernel
theorem kd_X11_sheet : aKd m_X11_sheet 3 := ⟨wd_9_17, wd_1_2, ⟨by decide +kernel, by decide +kernel, by decide +kernel⟩⟩
set_option maxRecDepth 100000 in
set_option maxHeartbeats 4000000 in
theorem l_X11_sheet_22   (σ : aSt) (o : Int32 × aSt) (h : f_X11_sheet_22   σ = some o) : AW true m_X11_sheet 22 [] [] σ 0 0 (some (.int o.1)) o.2 := by
  unfold f_X11_sheet_22 at h
  refine w_ldc (v := (-1000001)) dX11_sheet_22 wd_9_18 ?_
  obtain rfl := Option.some.inj h
  exact w_ireturn dX11_sheet_24 rfl (Nat.le_of_ble_eq_true rfl) (Nat.le_of_ble_eq_true rfl)
set_option maxRecDepth 100000 in
set_option maxHeartbeats 4000000 in
theorem c_X11_sheet (p1 : Int32) (p2 : Int32) (p3 : Int32) (σ : aSt) (o : Int32 × aSt) (h : f_X11_sheet p1 p2 p3 σ = some o) : AM true m_X11_sheet [va_rf (some (0)), .int (p1), .int (p2), .int (p3)] σ (some (.int o.1)) o.2 := by
  refine AM_of2 (lv := [(0, va_rf (some (0))), (1, Value.int (p1)), (2, Value.int (p2)), (3, Value.int (p3))]) (by decide +kernel) rfl (Nat.le_of_ble_eq_true rfl) ?_
  unfold f_X11_sheet at h
  refine w_iload_n 1 dX11_sheet_0 rfl rfl ?_
  replace h := e_bind h; obtain ⟨q1, e2, h⟩ := h
  refine w_callS1 (M2 := m_X11_isSheet) (av := [.int (p1)]) (c_X11_isSheet _ _ _ e2) dX11_sheet_1 kd_X11_isSheet wd_9_19 wd_9_20 rfl rfl ⟨Nat.le_of_ble_eq_true rfl, Nat.le_of_ble_eq_true rfl, Nat.le_of_ble_eq_true rfl, Nat.le_of_ble_eq_true rfl⟩ (Nat.le_of_ble_eq_true rfl) ?_
  refine w_if_eq 22 dX11_sheet_4 (by decide) (fun c3 => ?_) (fun c3 => ?_)
  · replace h := e_t c3 h
    refine w_sub [] rfl ?_
    exact l_X11_sheet_22 _ _ h
  · replace h := e_f c3 h
    refine w_iload_n 2 dX11_sheet_7 rfl rfl ?_
    refine w_iconst (v := 0) dX11_sheet_8 (by decide) ?_
    refine w_iconst (v := 2) dX11_sheet_9 (by decide) ?_
    replace h := e_bind h; obtain ⟨q4, e5, h⟩ := h
    refine w_callS1 (M2 := m_X11_within) (av := [.int (p2), .int (0), .int (2)]) (c_X11_within _ _ _ _ _ e5) dX11_sheet_10 kd_X11_within wd_9_22 wd_9_23 rfl rfl ⟨Nat.le_of_ble_eq_true rfl, Nat.le_of_ble_eq_true rfl, Nat.le_of_ble_eq_true rfl, Nat.le_of_ble_eq_true rfl⟩ (Nat.le_of_ble_eq_true rfl) ?_
    refine w_if_eq 22 dX11_sheet_13 (by decide) (fun c6 => ?_) (fun c6 => ?_)
    · replace h := e_t c6 h
      refine w_sub [] rfl ?_
      exact l_X11_sheet_22 _ _ h
    · replace h := e_f c6 h
      refine w_iload_n 3 dX11_sheet_16 rfl rfl ?_
      refine w_bipush (v := 120) dX11_sheet_17 (by decide) ?_
      refine w_icmp_le 25 dX11_sheet_19 (by decide) (fun c7 => ?_) (fun c7 => ?_)
      · replace h := e_t c7 h
        refine w_iload_n 3 dX11_sheet_25 rfl rfl ?_
        refine w_if_ge 35 dX11_sheet_26 (by decide) (fun c8 => ?_) (fun c8 => ?_)
        · replace h := e_t c8 h
          refine w_aload_n 0 ((some (0))) dX11_sheet_35 rfl rfl ?_
          refine w_get (v := va_rf (some 1)) dX11_sheet_36 fl_RX11_11 ⟨rfl, Or.inr ⟨rfl, by decide⟩⟩ (aFv_k rfl) ?_
          refine w_iload_n 1 dX11_sheet_39 rfl rfl ?_
          replace h := e_grd h; obtain ⟨b9, h⟩ := h
          refine w_aaloadS dX11_sheet_40 ⟨rfl, Or.inr ⟨rfl, by decide⟩⟩ b9 ?_
          refine w_iload_n 2 dX11_sheet_41 rfl rfl ?_
          refine w_iload_n 3 dX11_sheet_42 rfl rfl ?_
          replace h := e_grd h; obtain ⟨g12, h⟩ := h
          replace h := e_bind h; obtain ⟨q10, e11, h⟩ := h
          refine w_callV0 (M2 := m_X9_lay) (av := [.int (p2), .int (p3)]) (ci := 9) (c_X9_lay _ _ _ _ _ e11) dX11_sheet_43 kd_X9_lay wd_10_6 wd_10_7 wd_10_8 rfl rfl ⟨g12.1, Or.inl g12.2⟩ rfl ⟨Nat.le_of_ble_eq_true rfl, Nat.le_of_ble_eq_true rfl, Nat.le_of_ble_eq_true rfl, Nat.le_of_ble_eq_true rfl⟩ (Nat.le_of_ble_eq_true rfl) ?_
          refine w_aload_n 0 ((some (0))) dX11_sheet_46 rfl rfl ?_
          refine w_iload_n 3 dX11_sheet_47 rfl rfl ?_
          replace h := e_bind h; obtain ⟨q13, e14, h⟩ := h
          refine w_callV1 (M2 := m_X11_unhurt) (av := [.int (p3)]) (ci := 11) (c_X11_unhurt _ _ _ e14) dX11_sheet_48 kd_X11_unhurt wd_10_11 wd_10_12 wd_10_13 rfl rfl ⟨rfl, Or.inr ⟨rfl, by decide⟩⟩ rfl ⟨Nat.le_of_ble_eq_true rfl, Nat.le_of_ble_eq_true rfl, Nat.le_of_ble_eq_true rfl, Nat.le_of_ble_eq_true rfl⟩ (Nat.le_of_ble_eq_true rfl) ?_
          obtain rfl := Option.some.inj h
          exact w_ireturn dX11_sheet_51 rfl (Nat.le_of_ble_eq_true rfl) (Nat.le_of_ble_eq_true rfl)
        · replace h := e_f c8 h
          refine w_aload_n 0 ((some (0))) dX11_sheet_29 rfl rfl ?_
          refine w_iconst (v := 4) dX11_sheet_30 (by decide) ?_
          replace h := e_bind h; obtain ⟨q15, e16, h⟩ := h
          refine w_callV1 (M2 := m_X11_found) (av := [.int (4)]) (ci := 11) (c_X11_found _ _ _ e16) dX11_sheet_31 kd_X11_found wd_10_1 wd_10_2 wd_10_3 rfl rfl ⟨rfl, Or.inr ⟨rfl, by decide⟩⟩ rfl ⟨Nat.le_of_ble_eq_true rfl, Nat.le_of_ble_eq_true rfl, Nat.le_of_ble_eq_true rfl, Nat.le_of_ble_eq_true rfl⟩ (Nat.le_of_ble_eq_true rfl) ?_
          obtain rfl := Option.some.inj h
          exact w_ireturn dX11_sheet_34 rfl (Nat.le_of_ble_eq_true rfl) (Nat.le_of_ble_eq_true rfl)
      · replace h := e_f c7 h
        refine w_sub [] rfl ?_
        exact l_X11_sheet_22 _ _ h
theorem dX9_has_0 : decode cX9_has 0 = .ok (.iload_n 2, 1) := by decide +kernel
theorem dX9_has_1 : decode cX9_has 1 = .ok (.ifCond .lt 29, 3) := by decide +kernel
theorem dX9_has_4 : decode cX9_has 4 = .ok (.iload_n 1, 1) := by decide +kernel
theorem dX9_has_5 : decode cX9_has 5 = .ok (.ifCond .lt 25, 3) := by decide +kernel
theorem dX9_has_8 : decode cX9_has 8 = .ok (.iload_n 1, 1) := by decide +kernel
theorem dX9_has_9 : decode cX9_has 9 = .ok (.aload_n 0, 1) := by decide +kernel
theorem dX9_has_10 : decode cX9_has 10 = .ok (.getfield 23, 3) := by decide +kernel
theorem dX9_has_13 : decode cX9_has 13 = .ok (.if_icmp .gt 17, 3) := by decide +kernel
theorem dX9_has_16 : decode cX9_has 16 = .ok (.iload_n 2, 1) := by decide +kernel
theorem dX9_has_17 : decode cX9_has 17 = .ok (.aload_n 0, 1) := by decide +kernel
theorem dX9_has_18 : decode cX9_has 18 = .ok (.getfield 23, 3) := by decide +kernel
theorem dX9_has_21 : decode cX9_has 21 = .ok (.iload_n 1, 1) := by decide +kernel
theorem dX9_has_22 : decode cX9_has 22 = .ok (.isub, 1) := by decide +kernel
theorem dX9_has_23 : decode cX9_has 23 = .ok (.if_icmp .gt 7, 3) := by decide +kernel
theorem dX9_has_26 : decode cX9_has 26 = .ok (.iconst 1, 1) := by decide +kernel
theorem dX9_has_27 : decode cX9_has 27 = .ok (.goto 4, 3) := by decide +kernel
theorem dX9_has_30 : decode cX9_has 30 = .ok (.iconst 0, 1) := by decide +kernel
theorem dX9_has_31 : decode cX9_has 31 = .ok (.ireturn, 1) := by decide +kernel
theorem kd_X9_has : aKd m_X9_has 2 := ⟨wd_11_19, wd_3_2, ⟨by decide +kernel, by decide +kernel, by decide +kernel⟩⟩
set_option maxRecDepth 100000 in
set_option maxHeartbeats 4000000 in
theorem l_X9_has_31  (t0 : Int32) (σ : aSt) (o : Int32 × aSt) (h : f_X9_has_31  t0 σ = some o) : AW true m_X9_has 31 [] [.int (t0)] σ 0 0 (some (.int o.1)) o.2 := by
  unfold f_X9_has_31 at h
  replace h := e_grd h; obtain ⟨g6, h⟩ := h
  obtain rfl := Option.some.inj h
  exact w_zreturn dX9_has_31 rfl (e_nz g6) (Nat.le_of_ble_eq_true rfl) (Nat.le_of_ble_eq_true rfl)
set_option maxRecDepth 100000 in
set_option maxHeartbeats 4000000 in
theorem l_X9_has_30   (σ : aSt) (o : Int32 × aSt) (h : f_X9_has_30   σ = some o) : AW true m_X9_has 30 [] [] σ 0 0 (some (.int o.1)) o.2 := by
  unfold f_X9_has_30 at h
  refine w_iconst (v := 0) dX9_has_30 (by decide) ?_
  exact l_X9_has_31 _ _ _ h
set_option maxRecDepth 100000 in
set_option maxHeartbeats 4000000 in
theorem c_X9_has (p0 : Nat) (p1 : Int32) (p2 : Int32) (σ : aSt) (o : Int32 × aSt) (h : f_X9_has p0 p1 p2 σ = some o) : AM true m_X9_has [va_rf (some (p0)), .int (p1), .int (p2)] σ (some (.int o.1)) o.2 := by
  refine AM_of2 (lv := [(0, va_rf (some (p0))), (1, Value.int (p1)), (2, Value.int (p2))]) (by decide +kernel) rfl (Nat.le_of_ble_eq_true rfl) ?_
  unfold f_X9_has at h
  refine w_iload_n 2 dX9_has_0 rfl rfl ?_
  refine w_if_lt 30 dX9_has_1 (by decide) (fun c1 => ?_) (fun c1 => ?_)
  · replace h := e_t c1 h
    refine w_sub [] rfl ?_
    exact l_X9_has_30 _ _ h
  · replace h := e_f c1 h
    refine w_iload_n 1 dX9_has_4 rfl rfl ?_
    refine w_if_lt 30 dX9_has_5 (by decide) (fun c2 => ?_) (fun c2 => ?_)
    · replace h := e_t c2 h
      refine w_sub [] rfl ?_
      exact l_X9_has_30 _ _ h
    · replace h := e_f c2 h
      refine w_iload_n 1 dX9_has_8 rfl rfl ?_
      refine w_aload_n 0 ((some (p0))) dX9_has_9 rfl rfl ?_
      replace h := e_grd h; obtain ⟨g3, h⟩ := h
      refine w_get dX9_has_10 fl_RX9_23 ⟨g3.1, Or.inl g3.2⟩ (aFv_i rfl) ?_
      refine w_icmp_gt 30 dX9_has_13 (by decide) (fun c4 => ?_) (fun c4 => ?_)
      · replace h := e_t c4 h
        refine w_sub [] rfl ?_
        exact l_X9_has_30 _ _ h
      · replace h := e_f c4 h
        refine w_iload_n 2 dX9_has_16 rfl rfl ?_
        refine w_aload_n 0 ((some (p0))) dX9_has_17 rfl rfl ?_
        refine w_get dX9_has_18 fl_RX9_23 ⟨g3.1, Or.inl g3.2⟩ (aFv_i rfl) ?_
        refine w_iload_n 1 dX9_has_21 rfl rfl ?_
        refine w_isub dX9_has_22 ?_
        refine w_icmp_gt 30 dX9_has_23 (by decide) (fun c5 => ?_) (fun c5 => ?_)
        · replace h := e_t c5 h
          refine w_sub [] rfl ?_
          exact l_X9_has_30 _ _ h
        · replace h := e_f c5 h
          refine w_iconst (v := 1) dX9_has_26 (by decide) ?_
          refine w_goto 31 dX9_has_27 (by decide) ?_
          refine w_sub [] rfl ?_
          exact l_X9_has_31 _ _ _ h
theorem dX9_put_0 : decode cX9_put 0 = .ok (.aload_n 0, 1) := by decide +kernel
theorem dX9_put_1 : decode cX9_put 1 = .ok (.getfield 19, 3) := by decide +kernel
theorem dX9_put_4 : decode cX9_put 4 = .ok (.ifCond .ne 8, 3) := by decide +kernel
theorem dX9_put_7 : decode cX9_put 7 = .ok (.iload_n 2, 1) := by decide +kernel
theorem dX9_put_8 : decode cX9_put 8 = .ok (.i2b, 1) := by decide +kernel
theorem dX9_put_9 : decode cX9_put 9 = .ok (.goto 17, 3) := by decide +kernel
theorem dX9_put_12 : decode cX9_put 12 = .ok (.aload_n 0, 1) := by decide +kernel
theorem dX9_put_13 : decode cX9_put 13 = .ok (.getfield 19, 3) := by decide +kernel
theorem dX9_put_16 : decode cX9_put 16 = .ok (.iconst 1, 1) := by decide +kernel
theorem dX9_put_17 : decode cX9_put 17 = .ok (.if_icmp .ne 8, 3) := by decide +kernel
theorem dX9_put_20 : decode cX9_put 20 = .ok (.iload_n 2, 1) := by decide +kernel
theorem dX9_put_21 : decode cX9_put 21 = .ok (.i2s, 1) := by decide +kernel
theorem dX9_put_22 : decode cX9_put 22 = .ok (.goto 4, 3) := by decide +kernel
theorem dX9_put_25 : decode cX9_put 25 = .ok (.iload_n 2, 1) := by decide +kernel
theorem dX9_put_26 : decode cX9_put 26 = .ok (.istore_n 3, 1) := by decide +kernel
theorem dX9_put_27 : decode cX9_put 27 = .ok (.aload_n 0, 1) := by decide +kernel
theorem dX9_put_28 : decode cX9_put 28 = .ok (.iload_n 1, 1) := by decide +kernel
theorem dX9_put_29 : decode cX9_put 29 = .ok (.iconst 1, 1) := by decide +kernel
theorem dX9_put_30 : decode cX9_put 30 = .ok (.invokevirtual 32, 3) := by decide +kernel
theorem dX9_put_33 : decode cX9_put 33 = .ok (.ifCond .eq 10, 3) := by decide +kernel
theorem dX9_put_36 : decode cX9_put 36 = .ok (.aload_n 0, 1) := by decide +kernel
theorem dX9_put_37 : decode cX9_put 37 = .ok (.getfield 9, 3) := by decide +kernel
theorem dX9_put_40 : decode cX9_put 40 = .ok (.iload_n 1, 1) := by decide +kernel
theorem dX9_put_41 : decode cX9_put 41 = .ok (.iload_n 3, 1) := by decide +kernel
theorem dX9_put_42 : decode cX9_put 42 = .ok (.iastore, 1) := by decide +kernel
theorem dX9_put_43 : decode cX9_put 43 = .ok (.iload_n 3, 1) := by decide +kernel
theorem dX9_put_44 : decode cX9_put 44 = .ok (.ireturn, 1) := by decide +kernel
theorem kd_X9_put : aKd m_X9_put 2 := ⟨wd_11_23, wd_3_2, ⟨by decide +kernel, by decide +kernel, by decide +kernel⟩⟩
set_option maxRecDepth 100000 in
set_option maxHeartbeats 4000000 in
theorem l_X9_put_43  (x3 : Int32) (σ : aSt) (o : Int32 × aSt) (h : f_X9_put_43  x3 σ = some o) : AW true m_X9_put 43 [(3, Value.int (x3))] [] σ 0 0 (some (.int o.1)) o.2 := by
  unfold f_X9_put_43 at h
  refine w_iload_n 0 dX9_put_43 rfl rfl ?_
  obtain rfl := Option.some.inj h
  exact w_ireturn dX9_put_44 rfl (Nat.le_of_ble_eq_true rfl) (Nat.le_of_ble_eq_true rfl)
set_option maxRecDepth 100000 in
set_option maxHeartbeats 4000000 in
theorem l_X9_put_26  (x0 : Nat) (x1 : Int32) (t0 : Int32) (σ : aSt) (o : Int32 × aSt) (h : f_X9_put_26  x0 x1 t0 σ = some o) : AW true m_X9_put 26 [(0, va_rf (some (x0))), (1, Value.int (x1))] [.int (t0)] σ 0 0 (some (.int o.1)) o.2 := by
  unfold f_X9_put_26 at h
  refine w_istore_n dX9_put_26 rfl (by decide) rfl ?_
  refine w_aload_n 1 ((some (x0))) dX9_put_27 rfl rfl ?_
  refine w_iload_n 2 dX9_put_28 rfl rfl ?_
  refine w_iconst (v := 1) dX9_put_29 (by decide) ?_
  replace h := e_grd h; obtain ⟨g6, h⟩ := h
  replace h := e_bind h; obtain ⟨q4, e5, h⟩ := h
  refine w_callV1 (M2 := m_X9_has) (av := [.int (x1), .int (1)]) (ci := 9) (c_X9_has _ _ _ _ _ e5) dX9_put_30 kd_X9_has wd_12_0 wd_11_17 wd_11_18 rfl rfl ⟨g6.1, Or.inl g6.2⟩ rfl ⟨Nat.le_of_ble_eq_true rfl, Nat.le_of_ble_eq_true rfl, Nat.le_of_ble_eq_true rfl, Nat.le_of_ble_eq_true rfl⟩ (Nat.le_of_ble_eq_true rfl) ?_
  refine w_if_eq 43 dX9_put_33 (by decide) (fun c7 => ?_) (fun c7 => ?_)
  · replace h := e_t c7 h
    refine w_sub [0] rfl ?_
    exact l_X9_put_43 _ _ _ h
  · replace h := e_f c7 h
    refine w_aload_n 1 ((some (x0))) dX9_put_36 rfl rfl ?_
    replace h := e_grd h; obtain ⟨g8, h⟩ := h
    refine w_get (v := va_rf (some ((x0 + 1)))) dX9_put_37 fl_RX9_9 ⟨g8.1, Or.inl g8.2⟩ (aFv_k rfl) ?_
    refine w_iload_n 2 dX9_put_40 rfl rfl ?_
    refine w_iload_n 0 dX9_put_41 rfl rfl ?_
    replace h := e_grd h; obtain ⟨g9, h⟩ := h
    replace h := e_grd h; obtain ⟨b10, h⟩ := h
    refine w_iastore dX9_put_42 ⟨g9.1, Or.inl g9.2⟩ b10 ?_
    refine w_sub [0] rfl ?_
    exact l_X9_put_43 _ _ _ h
set_option maxRecDepth 100000 in
set_option maxHeartbeats 4000000 in
theorem c_X9_put (p0 : Nat) (p1 : Int32) (p2 : Int32) (σ : aSt) (o : Int32 × aSt) (h : f_X9_put p0 p1 p2 σ = some o) : AM true m_X9_put [va_rf (some (p0)), .int (p1), .int (p2)] σ (some (.int o.1)) o.2 := by
  refine AM_of2 (lv := [(0, va_rf (some (p0))), (1, Value.int (p1)), (2, Value.int (p2))]) (by decide +kernel) rfl (Nat.le_of_ble_eq_true rfl) ?_
  unfold f_X9_put at h
  refine w_aload_n 0 ((some (p0))) dX9_put_0 rfl rfl ?_
  replace h := e_grd h; obtain ⟨g1, h⟩ := h
  refine w_get dX9_put_1 fl_RX9_19 ⟨g1.1, Or.inl g1.2⟩ (aFv_i rfl) ?_
  refine w_if_ne 12 dX9_put_4 (by decide) (fun c2 => ?_) (fun c2 => ?_)
  · replace h := e_f c2 h
    refine w_aload_n 0 ((some (p0))) dX9_put_12 rfl rfl ?_
    refine w_get dX9_put_13 fl_RX9_19 ⟨g1.1, Or.inl g1.2⟩ (aFv_i rfl) ?_
    refine w_iconst (v := 1) dX9_put_16 (by decide) ?_
    refine w_icmp_ne 25 dX9_put_17 (by decide) (fun c3 => ?_) (fun c3 => ?_)
    · replace h := e_f c3 h
      refine w_iload_n 2 dX9_put_25 rfl rfl ?_
      refine w_sub [0, 1] rfl ?_
      exact l_X9_put_26 _ _ _ _ _ h
    · replace h := e_t c3 h
      refine w_iload_n 2 dX9_put_20 rfl rfl ?_
      refine w_i2s dX9_put_21 ?_
      refine w_goto 26 dX9_put_22 (by decide) ?_
      refine w_sub [0, 1] rfl ?_
      exact l_X9_put_26 _ _ _ _ _ h
  · replace h := e_t c2 h
    refine w_iload_n 2 dX9_put_7 rfl rfl ?_
    refine w_i2b dX9_put_8 ?_
    refine w_goto 26 dX9_put_9 (by decide) ?_
    refine w_sub [0, 1] rfl ?_
    exact l_X9_put_26 _ _ _ _ _ h
theorem dX11_set_0 : decode cX11_set 0 = .ok (.iload_n 1, 1) := by decide +kernel
theorem dX11_set_1 : decode cX11_set 1 = .ok (.invokestatic 85, 3) := by decide +kernel
theorem dX11_set_4 : decode cX11_set 4 = .ok (.ifCond .ne 6, 3) := by decide +kernel
theorem dX11_set_7 : decode cX11_set 7 = .ok (.ldc 93, 2) := by decide +kernel
theorem dX11_set_9 : decode cX11_set 9 = .ok (.ireturn, 1) := by decide +kernel
theorem dX11_set_10 : decode cX11_set 10 = .ok (.aload_n 0, 1) := by decide +kernel
theorem dX11_set_11 : decode cX11_set 11 = .ok (.getfield 11, 3) := by decide +kernel
theorem dX11_set_14 : decode cX11_set 14 = .ok (.iload_n 1, 1) := by decide +kernel
theorem dX11_set_15 : decode cX11_set 15 = .ok (.aaload, 1) := by decide +kernel
theorem dX11_set_16 : decode cX11_set 16 = .ok (.astore 4, 2) := by decide +kernel
theorem dX11_set_18 : decode cX11_set 18 = .ok (.aload 4, 2) := by decide +kernel
theorem dX11_set_20 : decode cX11_set 20 = .ok (.getfield 105, 3) := by decide +kernel
theorem dX11_set_23 : decode cX11_set 23 = .ok (.ifCond .ne 9, 3) := by decide +kernel
theorem dX11_set_26 : decode cX11_set 26 = .ok (.aload_n 0, 1) := by decide +kernel
theorem dX11_set_27 : decode cX11_set 27 = .ok (.iconst 1, 1) := by decide +kernel
theorem dX11_set_28 : decode cX11_set 28 = .ok (.invokevirtual 94, 3) := by decide +kernel
theorem dX11_set_31 : decode cX11_set 31 = .ok (.ireturn, 1) := by decide +kernel
theorem dX11_set_32 : decode cX11_set 32 = .ok (.aload 4, 2) := by decide +kernel
theorem dX11_set_34 : decode cX11_set 34 = .ok (.iload_n 2, 1) := by decide +kernel
theorem dX11_set_35 : decode cX11_set 35 = .ok (.iconst 1, 1) := by decide +kernel
theorem dX11_set_36 : decode cX11_set 36 = .ok (.invokevirtual 109, 3) := by decide +kernel
theorem dX11_set_39 : decode cX11_set 39 = .ok (.ifCond .ne 9, 3) := by decide +kernel
theorem dX11_set_42 : decode cX11_set 42 = .ok (.aload_n 0, 1) := by decide +kernel
theorem dX11_set_43 : decode cX11_set 43 = .ok (.iconst 2, 1) := by decide +kernel
theorem dX11_set_44 : decode cX11_set 44 = .ok (.invokevirtual 94, 3) := by decide +kernel
theorem dX11_set_47 : decode cX11_set 47 = .ok (.ireturn, 1) := by decide +kernel
theorem dX11_set_48 : decode cX11_set 48 = .ok (.aload_n 0, 1) := by decide +kernel
theorem dX11_set_49 : decode cX11_set 49 = .ok (.aload 4, 2) := by decide +kernel
theorem dX11_set_51 : decode cX11_set 51 = .ok (.iload_n 2, 1) := by decide +kernel
theorem dX11_set_52 : decode cX11_set 52 = .ok (.iload_n 3, 1) := by decide +kernel
theorem dX11_set_53 : decode cX11_set 53 = .ok (.invokevirtual 113, 3) := by decide +kernel
theorem dX11_set_56 : decode cX11_set 56 = .ok (.invokevirtual 102, 3) := by decide +kernel
theorem dX11_set_59 : decode cX11_set 59 = .ok (.ireturn, 1) := by decide +kernel
theorem kd_X11_set : aKd m_X11_set 3 := ⟨wd_11_14, wd_1_2, ⟨by decide +kernel, by decide +kernel, by decide +kernel⟩⟩
set_option maxRecDepth 100000 in
set_option maxHeartbeats 4000000 in
theorem c_X11_set (p1 : Int32) (p2 : Int32) (p3 : Int32) (σ : aSt) (o : Int32 × aSt) (h : f_X11_set p1 p2 p3 σ = some o) : AM true m_X11_set [va_rf (some (0)), .int (p1), .int (p2), .int (p3)] σ (some (.int o.1)) o.2 := by
  refine AM_of2 (lv := [(0, va_rf (some (0))), (1, Value.int (p1)), (2, Value.int (p2)), (3, Value.int (p3))]) (by decide +kernel) rfl (Nat.le_of_ble_eq_true rfl) ?_
  unfold f_X11_set at h
  refine w_iload_n 1 dX11_set_0 rfl rfl ?_
  replace h := e_bind h; obtain ⟨q1, e2, h⟩ := h
  refine w_callS1 (M2 := m_X11_isSheet) (av := [.int (p1)]) (c_X11_isSheet _ _ _ e2) dX11_set_1 kd_X11_isSheet wd_9_19 wd_9_20 rfl rfl ⟨Nat.le_of_ble_eq_true rfl, Nat.le_of_ble_eq_true rfl, Nat.le_of_ble_eq_true rfl, Nat.le_of_ble_eq_true rfl⟩ (Nat.le_of_ble_eq_true rfl) ?_
  refine w_if_ne 10 dX11_set_4 (by decide) (fun c3 => ?_) (fun c3 => ?_)
  · replace h := e_f c3 h
    refine w_aload_n 0 ((some (0))) dX11_set_10 rfl rfl ?_
    refine w_get (v := va_rf (some 1)) dX11_set_11 fl_RX11_11 ⟨rfl, Or.inr ⟨rfl, by decide⟩⟩ (aFv_k rfl) ?_
    refine w_iload_n 1 dX11_set_14 rfl rfl ?_
    replace h := e_grd h; obtain ⟨b4, h⟩ := h
    refine w_aaloadS dX11_set_15 ⟨rfl, Or.inr ⟨rfl, by decide⟩⟩ b4 ?_
    refine w_astore dX11_set_16 (by decide) rfl ?_
    refine w_aload 0 ((some ((41 + 2 * p1.toNatClampNeg)))) dX11_set_18 rfl ?_
    replace h := e_grd h; obtain ⟨g5, h⟩ := h
    refine w_get dX11_set_20 fl_RX11_105 ⟨g5.1, Or.inl g5.2⟩ (aFv_i rfl) ?_
    refine w_if_ne 32 dX11_set_23 (by decide) (fun c6 => ?_) (fun c6 => ?_)
    · replace h := e_f c6 h
      refine w_aload 0 ((some ((41 + 2 * p1.toNatClampNeg)))) dX11_set_32 rfl ?_
      refine w_iload_n 3 dX11_set_34 rfl rfl ?_
      refine w_iconst (v := 1) dX11_set_35 (by decide) ?_
      replace h := e_grd h; obtain ⟨g9, h⟩ := h
      replace h := e_bind h; obtain ⟨q7, e8, h⟩ := h
      refine w_callV1 (M2 := m_X9_has) (av := [.int (p2), .int (1)]) (ci := 9) (c_X9_has _ _ _ _ _ e8) dX11_set_36 kd_X9_has wd_11_16 wd_11_17 wd_11_18 rfl rfl ⟨g9.1, Or.inl g9.2⟩ rfl ⟨Nat.le_of_ble_eq_true rfl, Nat.le_of_ble_eq_true rfl, Nat.le_of_ble_eq_true rfl, Nat.le_of_ble_eq_true rfl⟩ (Nat.le_of_ble_eq_true rfl) ?_
      refine w_if_ne 48 dX11_set_39 (by decide) (fun c10 => ?_) (fun c10 => ?_)
      · replace h := e_f c10 h
        refine w_aload_n 1 ((some (0))) dX11_set_48 rfl rfl ?_
        refine w_aload 0 ((some ((41 + 2 * p1.toNatClampNeg)))) dX11_set_49 rfl ?_
        refine w_iload_n 3 dX11_set_51 rfl rfl ?_
        refine w_iload_n 4 dX11_set_52 rfl rfl ?_
        replace h := e_grd h; obtain ⟨g13, h⟩ := h
        replace h := e_bind h; obtain ⟨q11, e12, h⟩ := h
        refine w_callV1 (M2 := m_X9_put) (av := [.int (p2), .int (p3)]) (ci := 9) (c_X9_put _ _ _ _ _ e12) dX11_set_53 kd_X9_put wd_11_20 wd_11_21 wd_11_22 rfl rfl ⟨g13.1, Or.inl g13.2⟩ rfl ⟨Nat.le_of_ble_eq_true rfl, Nat.le_of_ble_eq_true rfl, Nat.le_of_ble_eq_true rfl, Nat.le_of_ble_eq_true rfl⟩ (Nat.le_of_ble_eq_true rfl) ?_
        replace h := e_bind h; obtain ⟨q14, e15, h⟩ := h
        refine w_callV1 (M2 := m_X11_unhurt) (av := [.int (q11.1)]) (ci := 11) (c_X11_unhurt _ _ _ e15) dX11_set_56 kd_X11_unhurt wd_10_11 wd_10_12 wd_10_13 rfl rfl ⟨rfl, Or.inr ⟨rfl, by decide⟩⟩ rfl ⟨Nat.le_of_ble_eq_true rfl, Nat.le_of_ble_eq_true rfl, Nat.le_of_ble_eq_true rfl, Nat.le_of_ble_eq_true rfl⟩ (Nat.le_of_ble_eq_true rfl) ?_
        obtain rfl := Option.some.inj h
        exact w_ireturn dX11_set_59 rfl (Nat.le_of_ble_eq_true rfl) (Nat.le_of_ble_eq_true rfl)
      · replace h := e_t c10 h
        refine w_aload_n 1 ((some (0))) dX11_set_42 rfl rfl ?_
        refine w_iconst (v := 2) dX11_set_43 (by decide) ?_
        replace h := e_bind h; obtain ⟨q16, e17, h⟩ := h
        refine w_callV1 (M2 := m_X11_found) (av := [.int (2)]) (ci := 11) (c_X11_found _ _ _ e17) dX11_set_44 kd_X11_found wd_10_1 wd_10_2 wd_10_3 rfl rfl ⟨rfl, Or.inr ⟨rfl, by decide⟩⟩ rfl ⟨Nat.le_of_ble_eq_true rfl, Nat.le_of_ble_eq_true rfl, Nat.le_of_ble_eq_true rfl, Nat.le_of_ble_eq_true rfl⟩ (Nat.le_of_ble_eq_true rfl) ?_
        obtain rfl := Option.some.inj h
        exact w_ireturn dX11_set_47 rfl (Nat.le_of_ble_eq_true rfl) (Nat.le_of_ble_eq_true rfl)
    · replace h := e_t c6 h
      refine w_aload_n 1 ((some (0))) dX11_set_26 rfl rfl ?_
      refine w_iconst (v := 1) dX11_set_27 (by decide) ?_
      replace h := e_bind h; obtain ⟨q18, e19, h⟩ := h
      refine w_callV1 (M2 := m_X11_found) (av := [.int (1)]) (ci := 11) (c_X11_found _ _ _ e19) dX11_set_28 kd_X11_found wd_10_1 wd_10_2 wd_10_3 rfl rfl ⟨rfl, Or.inr ⟨rfl, by decide⟩⟩ rfl ⟨Nat.le_of_ble_eq_true rfl, Nat.le_of_ble_eq_true rfl, Nat.le_of_ble_eq_true rfl, Nat.le_of_ble_eq_true rfl⟩ (Nat.le_of_ble_eq_true rfl) ?_
      obtain rfl := Option.some.inj h
      exact w_ireturn dX11_set_31 rfl (Nat.le_of_ble_eq_true rfl) (Nat.le_of_ble_eq_true rfl)
  · replace h := e_t c3 h
    refine w_ldc (v := (-1000001)) dX11_set_7 wd_9_18 ?_
    obtain rfl := Option.some.inj h
    exact w_ireturn dX11_set_9 rfl (Nat.le_of_ble_eq_true rfl) (Nat.le_of_ble_eq_true rfl)
theorem dX11_copy_0 : decode cX11_copy 0 = .ok (.iload_n 1, 1) := by decide +kernel
theorem dX11_copy_1 : decode cX11_copy 1 = .ok (.invokestatic 85, 3) := by decide +kernel
theorem dX11_copy_4 : decode cX11_copy 4 = .ok (.ifCond .eq 10, 3) := by decide +kernel
theorem dX11_copy_7 : decode cX11_copy 7 = .ok (.iload_n 3, 1) := by decide +kernel
theorem dX11_copy_8 : decode cX11_copy 8 = .ok (.invokestatic 85, 3) := by decide +kernel
theorem dX11_copy_11 : decode cX11_copy 11 = .ok (.ifCond .ne 6, 3) := by decide +kernel
theorem dX11_copy_14 : decode cX11_copy 14 = .ok (.ldc 93, 2) := by decide +kernel
theorem dX11_copy_16 : decode cX11_copy 16 = .ok (.ireturn, 1) := by decide +kernel
theorem dX11_copy_17 : decode cX11_copy 17 = .ok (.aload_n 0, 1) := by decide +kernel
theorem dX11_copy_18 : decode cX11_copy 18 = .ok (.getfield 11, 3) := by decide +kernel
theorem dX11_copy_21 : decode cX11_copy 21 = .ok (.iload_n 1, 1) := by decide +kernel
theorem dX11_copy_22 : decode cX11_copy 22 = .ok (.aaload, 1) := by decide +kernel
theorem dX11_copy_23 : decode cX11_copy 23 = .ok (.astore 6, 2) := by decide +kernel
theorem dX11_copy_25 : decode cX11_copy 25 = .ok (.aload_n 0, 1) := by decide +kernel
theorem dX11_copy_26 : decode cX11_copy 26 = .ok (.getfield 11, 3) := by decide +kernel
theorem dX11_copy_29 : decode cX11_copy 29 = .ok (.iload_n 3, 1) := by decide +kernel
theorem dX11_copy_30 : decode cX11_copy 30 = .ok (.aaload, 1) := by decide +kernel
theorem dX11_copy_31 : decode cX11_copy 31 = .ok (.astore 7, 2) := by decide +kernel
theorem dX11_copy_33 : decode cX11_copy 33 = .ok (.aload 6, 2) := by decide +kernel
theorem dX11_copy_35 : decode cX11_copy 35 = .ok (.getfield 105, 3) := by decide +kernel
theorem dX11_copy_38 : decode cX11_copy 38 = .ok (.ifCond .eq 11, 3) := by decide +kernel
theorem dX11_copy_41 : decode cX11_copy 41 = .ok (.aload 7, 2) := by decide +kernel
theorem dX11_copy_43 : decode cX11_copy 43 = .ok (.getfield 105, 3) := by decide +kernel
theorem dX11_copy_46 : decode cX11_copy 46 = .ok (.ifCond .ne 9, 3) := by decide +kernel
theorem dX11_copy_49 : decode cX11_copy 49 = .ok (.aload_n 0, 1) := by decide +kernel
theorem dX11_copy_50 : decode cX11_copy 50 = .ok (.iconst 1, 1) := by decide +kernel
theorem dX11_copy_51 : decode cX11_copy 51 = .ok (.invokevirtual 94, 3) := by decide +kernel
theorem dX11_copy_54 : decode cX11_copy 54 = .ok (.ireturn, 1) := by decide +kernel
theorem dX11_copy_55 : decode cX11_copy 55 = .ok (.aload 6, 2) := by decide +kernel
theorem dX11_copy_57 : decode cX11_copy 57 = .ok (.getfield 117, 3) := by decide +kernel
theorem dX11_copy_60 : decode cX11_copy 60 = .ok (.aload 7, 2) := by decide +kernel
theorem dX11_copy_62 : decode cX11_copy 62 = .ok (.getfield 117, 3) := by decide +kernel
theorem dX11_copy_65 : decode cX11_copy 65 = .ok (.if_icmp .eq 9, 3) := by decide +kernel
theorem dX11_copy_68 : decode cX11_copy 68 = .ok (.aload_n 0, 1) := by decide +kernel
theorem dX11_copy_69 : decode cX11_copy 69 = .ok (.iconst 5, 1) := by decide +kernel
theorem dX11_copy_70 : decode cX11_copy 70 = .ok (.invokevirtual 94, 3) := by decide +kernel
theorem dX11_copy_73 : decode cX11_copy 73 = .ok (.ireturn, 1) := by decide +kernel
theorem dX11_copy_74 : decode cX11_copy 74 = .ok (.aload 6, 2) := by decide +kernel
theorem dX11_copy_76 : decode cX11_copy 76 = .ok (.iload_n 2, 1) := by decide +kernel
theorem dX11_copy_77 : decode cX11_copy 77 = .ok (.iload 5, 2) := by decide +kernel
theorem dX11_copy_79 : decode cX11_copy 79 = .ok (.invokevirtual 109, 3) := by decide +kernel
theorem dX11_copy_82 : decode cX11_copy 82 = .ok (.ifCond .eq 15, 3) := by decide +kernel
theorem dX11_copy_85 : decode cX11_copy 85 = .ok (.aload 7, 2) := by decide +kernel
theorem dX11_copy_87 : decode cX11_copy 87 = .ok (.iload 4, 2) := by decide +kernel
theorem dX11_copy_89 : decode cX11_copy 89 = .ok (.iload 5, 2) := by decide +kernel
theorem dX11_copy_91 : decode cX11_copy 91 = .ok (.invokevirtual 109, 3) := by decide +kernel
theorem dX11_copy_94 : decode cX11_copy 94 = .ok (.ifCond .ne 9, 3) := by decide +kernel
theorem dX11_copy_97 : decode cX11_copy 97 = .ok (.aload_n 0, 1) := by decide +kernel
theorem dX11_copy_98 : decode cX11_copy 98 = .ok (.iconst 2, 1) := by decide +kernel
theorem dX11_copy_99 : decode cX11_copy 99 = .ok (.invokevirtual 94, 3) := by decide +kernel
theorem dX11_copy_102 : decode cX11_copy 102 = .ok (.ireturn, 1) := by decide +kernel
theorem dX11_copy_103 : decode cX11_copy 103 = .ok (.aload 6, 2) := by decide +kernel
theorem dX11_copy_105 : decode cX11_copy 105 = .ok (.getfield 120, 3) := by decide +kernel
theorem dX11_copy_108 : decode cX11_copy 108 = .ok (.iload_n 2, 1) := by decide +kernel
theorem dX11_copy_109 : decode cX11_copy 109 = .ok (.aload 7, 2) := by decide +kernel
theorem dX11_copy_111 : decode cX11_copy 111 = .ok (.getfield 120, 3) := by decide +kernel
theorem dX11_copy_114 : decode cX11_copy 114 = .ok (.iload 4, 2) := by decide +kernel
theorem dX11_copy_116 : decode cX11_copy 116 = .ok (.iload 5, 2) := by decide +kernel
theorem dX11_copy_118 : decode cX11_copy 118 = .ok (.invokestatic 124, 3) := by decide +kernel
theorem dX11_copy_121 : decode cX11_copy 121 = .ok (.aload_n 0, 1) := by decide +kernel
theorem dX11_copy_122 : decode cX11_copy 122 = .ok (.iload 5, 2) := by decide +kernel
theorem dX11_copy_124 : decode cX11_copy 124 = .ok (.invokevirtual 102, 3) := by decide +kernel
theorem dX11_copy_127 : decode cX11_copy 127 = .ok (.ireturn, 1) := by decide +kernel
theorem kd_X11_copy : aKd m_X11_copy 5 := ⟨wd_12_8, wd_1_2, ⟨by decide +kernel, by decide +kernel, by decide +kernel⟩⟩
set_option maxRecDepth 100000 in
set_option maxHeartbeats 4000000 in
theorem l_X11_copy_14   (σ : aSt) (o : Int32 × aSt) (h : f_X11_copy_14   σ = some o) : AW true m_X11_copy 14 [] [] σ 0 0 (some (.int o.1)) o.2 := by
  unfold f_X11_copy_14 at h
  refine w_ldc (v := (-1000001)) dX11_copy_14 wd_9_18 ?_
  obtain rfl := Option.some.inj h
  exact w_ireturn dX11_copy_16 rfl (Nat.le_of_ble_eq_true rfl) (Nat.le_of_ble_eq_true rfl)
set_option maxRecDepth 100000 in
set_option maxHeartbeats 4000000 in
theorem l_X11_copy_49   (σ : aSt) (o : Int32 × aSt) (h : f_X11_copy_49   σ = some o) : AW true m_X11_copy 49 [(0, va_rf (some (0)))] [] σ 0 0 (some (.int o.1)) o.2 := by
  unfold f_X11_copy_49 at h
  refine w_aload_n 0 ((some (0))) dX11_copy_49 rfl rfl ?_
  refine w_iconst (v := 1) dX11_copy_50 (by decide) ?_
  replace h := e_bind h; obtain ⟨q33, e34, h⟩ := h
  refine w_callV1 (M2 := m_X11_found) (av := [.int (1)]) (ci := 11) (c_X11_found _ _ _ e34) dX11_copy_51 kd_X11_found wd_10_1 wd_10_2 wd_10_3 rfl rfl ⟨rfl, Or.inr ⟨rfl, by decide⟩⟩ rfl ⟨Nat.le_of_ble_eq_true rfl, Nat.le_of_ble_eq_true rfl, Nat.le_of_ble_eq_true rfl, Nat.le_of_ble_eq_true rfl⟩ (Nat.le_of_ble_eq_true rfl) ?_
  obtain rfl := Option.some.inj h
  exact w_ireturn dX11_copy_54 rfl (Nat.le_of_ble_eq_true rfl) (Nat.le_of_ble_eq_true rfl)
set_option maxRecDepth 100000 in
set_option maxHeartbeats 4000000 in
theorem l_X11_copy_97   (σ : aSt) (o : Int32 × aSt) (h : f_X11_copy_97   σ = some o) : AW true m_X11_copy 97 [(0, va_rf (some (0)))] [] σ 0 0 (some (.int o.1)) o.2 := by
  unfold f_X11_copy_97 at h
  refine w_aload_n 0 ((some (0))) dX11_copy_97 rfl rfl ?_
  refine w_iconst (v := 2) dX11_copy_98 (by decide) ?_
  replace h := e_bind h; obtain ⟨q31, e32, h⟩ := h
  refine w_callV1 (M2 := m_X11_found) (av := [.int (2)]) (ci := 11) (c_X11_found _ _ _ e32) dX11_copy_99 kd_X11_found wd_10_1 wd_10_2 wd_10_3 rfl rfl ⟨rfl, Or.inr ⟨rfl, by decide⟩⟩ rfl ⟨Nat.le_of_ble_eq_true rfl, Nat.le_of_ble_eq_true rfl, Nat.le_of_ble_eq_true rfl, Nat.le_of_ble_eq_true rfl⟩ (Nat.le_of_ble_eq_true rfl) ?_
  obtain rfl := Option.some.inj h
  exact w_ireturn dX11_copy_102 rfl (Nat.le_of_ble_eq_true rfl) (Nat.le_of_ble_eq_true rfl)
set_option maxRecDepth 100000 in
set_option maxHeartbeats 4000000 in
theorem c_X11_copy (p1 : Int32) (p2 : Int32) (p3 : Int32) (p4 : Int32) (p5 : Int32) (σ : aSt) (o : Int32 × aSt) (h : f_X11_copy p1 p2 p3 p4 p5 σ = some o) : AM true m_X11_copy [va_rf (some (0)), .int (p1), .int (p2), .int (p3), .int (p4), .int (p5)] σ (some (.int o.1)) o.2 := by
  refine AM_of2 (lv := [(0, va_rf (some (0))), (1, Value.int (p1)), (2, Value.int (p2)), (3, Value.int (p3)), (4, Value.int (p4)), (5, Value.int (p5))]) (by decide +kernel) rfl (Nat.le_of_ble_eq_true rfl) ?_
  unfold f_X11_copy at h
  refine w_iload_n 1 dX11_copy_0 rfl rfl ?_
  replace h := e_bind h; obtain ⟨q1, e2, h⟩ := h
  refine w_callS1 (M2 := m_X11_isSheet) (av := [.int (p1)]) (c_X11_isSheet _ _ _ e2) dX11_copy_1 kd_X11_isSheet wd_9_19 wd_9_20 rfl rfl ⟨Nat.le_of_ble_eq_true rfl, Nat.le_of_ble_eq_true rfl, Nat.le_of_ble_eq_true rfl, Nat.le_of_ble_eq_true rfl⟩ (Nat.le_of_ble_eq_true rfl) ?_
  refine w_if_eq 14 dX11_copy_4 (by decide) (fun c3 => ?_) (fun c3 => ?_)
  · replace h := e_t c3 h
    refine w_sub [] rfl ?_
    exact l_X11_copy_14 _ _ h
  · replace h := e_f c3 h
    refine w_iload_n 3 dX11_copy_7 rfl rfl ?_
    replace h := e_bind h; obtain ⟨q4, e5, h⟩ := h
    refine w_callS1 (M2 := m_X11_isSheet) (av := [.int (p3)]) (c_X11_isSheet _ _ _ e5) dX11_copy_8 kd_X11_isSheet wd_9_19 wd_9_20 rfl rfl ⟨Nat.le_of_ble_eq_true rfl, Nat.le_of_ble_eq_true rfl, Nat.le_of_ble_eq_true rfl, Nat.le_of_ble_eq_true rfl⟩ (Nat.le_of_ble_eq_true rfl) ?_
    refine w_if_ne 17 dX11_copy_11 (by decide) (fun c6 => ?_) (fun c6 => ?_)
    · replace h := e_f c6 h
      refine w_aload_n 0 ((some (0))) dX11_copy_17 rfl rfl ?_
      refine w_get (v := va_rf (some 1)) dX11_copy_18 fl_RX11_11 ⟨rfl, Or.inr ⟨rfl, by decide⟩⟩ (aFv_k rfl) ?_
      refine w_iload_n 1 dX11_copy_21 rfl rfl ?_
      replace h := e_grd h; obtain ⟨b7, h⟩ := h
      refine w_aaloadS dX11_copy_22 ⟨rfl, Or.inr ⟨rfl, by decide⟩⟩ b7 ?_
      refine w_astore dX11_copy_23 (by decide) rfl ?_
      refine w_aload_n 1 ((some (0))) dX11_copy_25 rfl rfl ?_
      refine w_get (v := va_rf (some 1)) dX11_copy_26 fl_RX11_11 ⟨rfl, Or.inr ⟨rfl, by decide⟩⟩ (aFv_k rfl) ?_
      refine w_iload_n 4 dX11_copy_29 rfl rfl ?_
      replace h := e_grd h; obtain ⟨b8, h⟩ := h
      refine w_aaloadS dX11_copy_30 ⟨rfl, Or.inr ⟨rfl, by decide⟩⟩ b8 ?_
      refine w_astore dX11_copy_31 (by decide) rfl ?_
      refine w_aload 1 ((some ((41 + 2 * p1.toNatClampNeg)))) dX11_copy_33 rfl ?_
      replace h := e_grd h; obtain ⟨g9, h⟩ := h
      refine w_get dX11_copy_35 fl_RX11_105 ⟨g9.1, Or.inl g9.2⟩ (aFv_i rfl) ?_
      refine w_if_eq 49 dX11_copy_38 (by decide) (fun c10 => ?_) (fun c10 => ?_)
      · replace h := e_t c10 h
        refine w_sub [2] rfl ?_
        exact l_X11_copy_49 _ _ h
      · replace h := e_f c10 h
        refine w_aload 0 ((some ((41 + 2 * p3.toNatClampNeg)))) dX11_copy_41 rfl ?_
        replace h := e_grd h; obtain ⟨g11, h⟩ := h
        refine w_get dX11_copy_43 fl_RX11_105 ⟨g11.1, Or.inl g11.2⟩ (aFv_i rfl) ?_
        refine w_if_ne 55 dX11_copy_46 (by decide) (fun c12 => ?_) (fun c12 => ?_)
        · replace h := e_f c12 h
          refine w_aload 1 ((some ((41 + 2 * p1.toNatClampNeg)))) dX11_copy_55 rfl ?_
          refine w_get dX11_copy_57 fl_RX11_117 ⟨g9.1, Or.inl g9.2⟩ (aFv_i rfl) ?_
          refine w_aload 0 ((some ((41 + 2 * p3.toNatClampNeg)))) dX11_copy_60 rfl ?_
          refine w_get dX11_copy_62 fl_RX11_117 ⟨g11.1, Or.inl g11.2⟩ (aFv_i rfl) ?_
          refine w_icmp_eq 74 dX11_copy_65 (by decide) (fun c13 => ?_) (fun c13 => ?_)
          · replace h := e_t c13 h
            refine w_aload 1 ((some ((41 + 2 * p1.toNatClampNeg)))) dX11_copy_74 rfl ?_
            refine w_iload_n 4 dX11_copy_76 rfl rfl ?_
            refine w_iload 7 dX11_copy_77 rfl ?_
            replace h := e_grd h; obtain ⟨g16, h⟩ := h
            replace h := e_bind h; obtain ⟨q14, e15, h⟩ := h
            refine w_callV1 (M2 := m_X9_has) (av := [.int (p2), .int (p5)]) (ci := 9) (c_X9_has _ _ _ _ _ e15) dX11_copy_79 kd_X9_has wd_11_16 wd_11_17 wd_11_18 rfl rfl ⟨g16.1, Or.inl g16.2⟩ rfl ⟨Nat.le_of_ble_eq_true rfl, Nat.le_of_ble_eq_true rfl, Nat.le_of_ble_eq_true rfl, Nat.le_of_ble_eq_true rfl⟩ (Nat.le_of_ble_eq_true rfl) ?_
            refine w_if_eq 97 dX11_copy_82 (by decide) (fun c17 => ?_) (fun c17 => ?_)
            · replace h := e_t c17 h
              refine w_sub [2] rfl ?_
              exact l_X11_copy_97 _ _ h
            · replace h := e_f c17 h
              refine w_aload 0 ((some ((41 + 2 * p3.toNatClampNeg)))) dX11_copy_85 rfl ?_
              refine w_iload 6 dX11_copy_87 rfl ?_
              refine w_iload 7 dX11_copy_89 rfl ?_
              replace h := e_grd h; obtain ⟨g20, h⟩ := h
              replace h := e_bind h; obtain ⟨q18, e19, h⟩ := h
              refine w_callV1 (M2 := m_X9_has) (av := [.int (p4), .int (p5)]) (ci := 9) (c_X9_has _ _ _ _ _ e19) dX11_copy_91 kd_X9_has wd_11_16 wd_11_17 wd_11_18 rfl rfl ⟨g20.1, Or.inl g20.2⟩ rfl ⟨Nat.le_of_ble_eq_true rfl, Nat.le_of_ble_eq_true rfl, Nat.le_of_ble_eq_true rfl, Nat.le_of_ble_eq_true rfl⟩ (Nat.le_of_ble_eq_true rfl) ?_
              refine w_if_ne 103 dX11_copy_94 (by decide) (fun c21 => ?_) (fun c21 => ?_)
              · replace h := e_f c21 h
                refine w_aload 1 ((some ((41 + 2 * p1.toNatClampNeg)))) dX11_copy_103 rfl ?_
                replace h := e_grd h; obtain ⟨g22, h⟩ := h
                refine w_get (v := va_rf (some (((41 + 2 * p1.toNatClampNeg) + 1)))) dX11_copy_105 fl_RX11_120 ⟨g22.1, Or.inl g22.2⟩ (aFv_k rfl) ?_
                refine w_iload_n 4 dX11_copy_108 rfl rfl ?_
                refine w_aload 0 ((some ((41 + 2 * p3.toNatClampNeg)))) dX11_copy_109 rfl ?_
                replace h := e_grd h; obtain ⟨g23, h⟩ := h
                refine w_get (v := va_rf (some (((41 + 2 * p3.toNatClampNeg) + 1)))) dX11_copy_111 fl_RX11_120 ⟨g23.1, Or.inl g23.2⟩ (aFv_k rfl) ?_
                refine w_iload 6 dX11_copy_114 rfl ?_
                refine w_iload 7 dX11_copy_116 rfl ?_
                replace h := e_grd h; obtain ⟨g24, h⟩ := h
                replace h := e_grd h; obtain ⟨g25, h⟩ := h
                replace h := e_grd h; obtain ⟨g26, h⟩ := h
                refine w_copy dX11_copy_118 wd_12_11 wd_12_12 wd_12_13 wd_12_14 ⟨g24.1, Or.inl g24.2⟩ ⟨g25.1, Or.inl g25.2⟩ g26.1 g26.2.1 g26.2.2.1 g26.2.2.2.1 g26.2.2.2.2 (by decide) (by decide) ?_
                refine w_aload_n 2 ((some (0))) dX11_copy_121 rfl rfl ?_
                refine w_iload 7 dX11_copy_122 rfl ?_
                replace h := e_bind h; obtain ⟨q27, e28, h⟩ := h
                refine w_callV1 (M2 := m_X11_unhurt) (av := [.int (p5)]) (ci := 11) (c_X11_unhurt _ _ _ e28) dX11_copy_124 kd_X11_unhurt wd_10_11 wd_10_12 wd_10_13 rfl rfl ⟨rfl, Or.inr ⟨rfl, by decide⟩⟩ rfl ⟨Nat.le_of_ble_eq_true rfl, Nat.le_of_ble_eq_true rfl, Nat.le_of_ble_eq_true rfl, Nat.le_of_ble_eq_true rfl⟩ (Nat.le_of_ble_eq_true rfl) ?_
                obtain rfl := Option.some.inj h
                exact w_ireturn dX11_copy_127 rfl (Nat.le_of_ble_eq_true rfl) (Nat.le_of_ble_eq_true rfl)
              · replace h := e_t c21 h
                refine w_sub [2] rfl ?_
                exact l_X11_copy_97 _ _ h
          · replace h := e_f c13 h
            refine w_aload_n 2 ((some (0))) dX11_copy_68 rfl rfl ?_
            refine w_iconst (v := 5) dX11_copy_69 (by decide) ?_
            replace h := e_bind h; obtain ⟨q29, e30, h⟩ := h
            refine w_callV1 (M2 := m_X11_found) (av := [.int (5)]) (ci := 11) (c_X11_found _ _ _ e30) dX11_copy_70 kd_X11_found wd_10_1 wd_10_2 wd_10_3 rfl rfl ⟨rfl, Or.inr ⟨rfl, by decide⟩⟩ rfl ⟨Nat.le_of_ble_eq_true rfl, Nat.le_of_ble_eq_true rfl, Nat.le_of_ble_eq_true rfl, Nat.le_of_ble_eq_true rfl⟩ (Nat.le_of_ble_eq_true rfl) ?_
            obtain rfl := Option.some.inj h
            exact w_ireturn dX11_copy_73 rfl (Nat.le_of_ble_eq_true rfl) (Nat.le_of_ble_eq_true rfl)
        · replace h := e_t c12 h
          refine w_sub [2] rfl ?_
          exact l_X11_copy_49 _ _ h
    · replace h := e_t c6 h
      refine w_sub [] rfl ?_
      exact l_X11_copy_14 _ _ h
theorem dX11_drop_0 : decode cX11_drop 0 = .ok (.iload_n 1, 1) := by decide +kernel
theorem dX11_drop_1 : decode cX11_drop 1 = .ok (.invokestatic 85, 3) := by decide +kernel
theorem dX11_drop_4 : decode cX11_drop 4 = .ok (.ifCond .ne 6, 3) := by decide +kernel
theorem dX11_drop_7 : decode cX11_drop 7 = .ok (.ldc 93, 2) := by decide +kernel
theorem dX11_drop_9 : decode cX11_drop 9 = .ok (.ireturn, 1) := by decide +kernel
theorem dX11_drop_10 : decode cX11_drop 10 = .ok (.aload_n 0, 1) := by decide +kernel
theorem dX11_drop_11 : decode cX11_drop 11 = .ok (.getfield 11, 3) := by decide +kernel
theorem dX11_drop_14 : decode cX11_drop 14 = .ok (.iload_n 1, 1) := by decide +kernel
theorem dX11_drop_15 : decode cX11_drop 15 = .ok (.aaload, 1) := by decide +kernel
theorem dX11_drop_16 : decode cX11_drop 16 = .ok (.astore_n 2, 1) := by decide +kernel
theorem dX11_drop_17 : decode cX11_drop 17 = .ok (.aload_n 2, 1) := by decide +kernel
theorem dX11_drop_18 : decode cX11_drop 18 = .ok (.getfield 105, 3) := by decide +kernel
theorem dX11_drop_21 : decode cX11_drop 21 = .ok (.ifCond .ne 9, 3) := by decide +kernel
theorem dX11_drop_24 : decode cX11_drop 24 = .ok (.aload_n 0, 1) := by decide +kernel
theorem dX11_drop_25 : decode cX11_drop 25 = .ok (.iconst 1, 1) := by decide +kernel
theorem dX11_drop_26 : decode cX11_drop 26 = .ok (.invokevirtual 94, 3) := by decide +kernel
theorem dX11_drop_29 : decode cX11_drop 29 = .ok (.ireturn, 1) := by decide +kernel
theorem dX11_drop_30 : decode cX11_drop 30 = .ok (.aload_n 2, 1) := by decide +kernel
theorem dX11_drop_31 : decode cX11_drop 31 = .ok (.iconst 0, 1) := by decide +kernel
theorem dX11_drop_32 : decode cX11_drop 32 = .ok (.putfield 105, 3) := by decide +kernel
theorem dX11_drop_35 : decode cX11_drop 35 = .ok (.aload_n 0, 1) := by decide +kernel
theorem dX11_drop_36 : decode cX11_drop 36 = .ok (.aload_n 2, 1) := by decide +kernel
theorem dX11_drop_37 : decode cX11_drop 37 = .ok (.getfield 130, 3) := by decide +kernel
theorem dX11_drop_40 : decode cX11_drop 40 = .ok (.invokevirtual 102, 3) := by decide +kernel
theorem dX11_drop_43 : decode cX11_drop 43 = .ok (.ireturn, 1) := by decide +kernel
theorem kd_X11_drop : aKd m_X11_drop 1 := ⟨wd_12_22, wd_1_2, ⟨by decide +kernel, by decide +kernel, by decide +kernel⟩⟩
set_option maxRecDepth 100000 in
set_option maxHeartbeats 4000000 in
theorem c_X11_drop (p1 : Int32) (σ : aSt) (o : Int32 × aSt) (h : f_X11_drop p1 σ = some o) : AM true m_X11_drop [va_rf (some (0)), .int (p1)] σ (some (.int o.1)) o.2 := by
  refine AM_of2 (lv := [(0, va_rf (some (0))), (1, Value.int (p1))]) (by decide +kernel) rfl (Nat.le_of_ble_eq_true rfl) ?_
  unfold f_X11_drop at h
  refine w_iload_n 1 dX11_drop_0 rfl rfl ?_
  replace h := e_bind h; obtain ⟨q1, e2, h⟩ := h
  refine w_callS1 (M2 := m_X11_isSheet) (av := [.int (p1)]) (c_X11_isSheet _ _ _ e2) dX11_drop_1 kd_X11_isSheet wd_9_19 wd_9_20 rfl rfl ⟨Nat.le_of_ble_eq_true rfl, Nat.le_of_ble_eq_true rfl, Nat.le_of_ble_eq_true rfl, Nat.le_of_ble_eq_true rfl⟩ (Nat.le_of_ble_eq_true rfl) ?_
  refine w_if_ne 10 dX11_drop_4 (by decide) (fun c3 => ?_) (fun c3 => ?_)
  · replace h := e_f c3 h
    refine w_aload_n 0 ((some (0))) dX11_drop_10 rfl rfl ?_
    refine w_get (v := va_rf (some 1)) dX11_drop_11 fl_RX11_11 ⟨rfl, Or.inr ⟨rfl, by decide⟩⟩ (aFv_k rfl) ?_
    refine w_iload_n 1 dX11_drop_14 rfl rfl ?_
    replace h := e_grd h; obtain ⟨b4, h⟩ := h
    refine w_aaloadS dX11_drop_15 ⟨rfl, Or.inr ⟨rfl, by decide⟩⟩ b4 ?_
    refine w_astore_n dX11_drop_16 rfl (by decide) rfl ?_
    refine w_aload_n 0 ((some ((41 + 2 * p1.toNatClampNeg)))) dX11_drop_17 rfl rfl ?_
    replace h := e_grd h; obtain ⟨g5, h⟩ := h
    refine w_get dX11_drop_18 fl_RX11_105 ⟨g5.1, Or.inl g5.2⟩ (aFv_i rfl) ?_
    refine w_if_ne 30 dX11_drop_21 (by decide) (fun c6 => ?_) (fun c6 => ?_)
    · replace h := e_f c6 h
      refine w_aload_n 0 ((some ((41 + 2 * p1.toNatClampNeg)))) dX11_drop_30 rfl rfl ?_
      refine w_iconst (v := 0) dX11_drop_31 (by decide) ?_
      refine w_putZ dX11_drop_32 fl_RX11_105 (Or.inl rfl) rfl ⟨g5.1, Or.inl g5.2⟩ rfl rfl ?_
      refine w_aload_n 1 ((some (0))) dX11_drop_35 rfl rfl ?_
      refine w_aload_n 0 ((some ((41 + 2 * p1.toNatClampNeg)))) dX11_drop_36 rfl rfl ?_
      refine w_get dX11_drop_37 fl_RX11_130 ⟨g5.1, Or.inl g5.2⟩ (aFv_i rfl) ?_
      replace h := e_bind h; obtain ⟨q7, e8, h⟩ := h
      refine w_callV1 (M2 := m_X11_unhurt) (av := [.int (gI (sI q1.2 (41 + 2 * p1.toNatClampNeg) 1 (0)) (41 + 2 * p1.toNatClampNeg) 3)]) (ci := 11) (c_X11_unhurt _ _ _ e8) dX11_drop_40 kd_X11_unhurt wd_10_11 wd_10_12 wd_10_13 rfl rfl ⟨rfl, Or.inr ⟨rfl, by decide⟩⟩ rfl ⟨Nat.le_of_ble_eq_true rfl, Nat.le_of_ble_eq_true rfl, Nat.le_of_ble_eq_true rfl, Nat.le_of_ble_eq_true rfl⟩ (Nat.le_of_ble_eq_true rfl) ?_
      obtain rfl := Option.some.inj h
      exact w_ireturn dX11_drop_43 rfl (Nat.le_of_ble_eq_true rfl) (Nat.le_of_ble_eq_true rfl)
    · replace h := e_t c6 h
      refine w_aload_n 1 ((some (0))) dX11_drop_24 rfl rfl ?_
      refine w_iconst (v := 1) dX11_drop_25 (by decide) ?_
      replace h := e_bind h; obtain ⟨q9, e10, h⟩ := h
      refine w_callV1 (M2 := m_X11_found) (av := [.int (1)]) (ci := 11) (c_X11_found _ _ _ e10) dX11_drop_26 kd_X11_found wd_10_1 wd_10_2 wd_10_3 rfl rfl ⟨rfl, Or.inr ⟨rfl, by decide⟩⟩ rfl ⟨Nat.le_of_ble_eq_true rfl, Nat.le_of_ble_eq_true rfl, Nat.le_of_ble_eq_true rfl, Nat.le_of_ble_eq_true rfl⟩ (Nat.le_of_ble_eq_true rfl) ?_
      obtain rfl := Option.some.inj h
      exact w_ireturn dX11_drop_29 rfl (Nat.le_of_ble_eq_true rfl) (Nat.le_of_ble_eq_true rfl)
  · replace h := e_t c3 h
    refine w_ldc (v := (-1000001)) dX11_drop_7 wd_9_18 ?_
    obtain rfl := Option.some.inj h
    exact w_ireturn dX11_drop_9 rfl (Nat.le_of_ble_eq_true rfl) (Nat.le_of_ble_eq_true rfl)
theorem dX3_find_0 : decode cX3_find 0 = .ok (.iload_n 1, 1) := by decide +kernel
theorem dX3_find_1 : decode cX3_find 1 = .ok (.iconst 0, 1) := by decide +kernel
theorem dX3_find_2 : decode cX3_find 2 = .ok (.sipush 999, 3) := by decide +kernel
theorem dX3_find_5 : decode cX3_find 5 = .ok (.invokestatic 27, 3) := by decide +kernel
theorem dX3_find_8 : decode cX3_find 8 = .ok (.ifCond .eq 12, 3) := by decide +kernel
theorem dX3_find_11 : decode cX3_find 11 = .ok (.aload_n 0, 1) := by decide +kernel
theorem dX3_find_12 : decode cX3_find 12 = .ok (.getfield 11, 3) := by decide +kernel
theorem dX3_find_15 : decode cX3_find 15 = .ok (.iload_n 1, 1) := by decide +kernel
theorem dX3_find_16 : decode cX3_find 16 = .ok (.aaload, 1) := by decide +kernel
theorem dX3_find_17 : decode cX3_find 17 = .ok (.goto 4, 3) := by decide +kernel
theorem dX3_find_20 : decode cX3_find 20 = .ok (.aconst_null, 1) := by decide +kernel
theorem dX3_find_21 : decode cX3_find 21 = .ok (.areturn, 1) := by decide +kernel
theorem kd_X3_find : aKd m_X3_find 1 := ⟨wd_13_23, wd_1_17, ⟨by decide +kernel, by decide +kernel, by decide +kernel⟩⟩
set_option maxRecDepth 100000 in
set_option maxHeartbeats 4000000 in
theorem l_X3_find_21  (t0 : Option Nat) (σ : aSt) (o : Option Nat × aSt) (h : f_X3_find_21  t0 σ = some o) : AW true m_X3_find 21 [] [va_rf (t0)] σ 0 0 (some (va_rf o.1)) o.2 := by
  unfold f_X3_find_21 at h
  obtain rfl := Option.some.inj h
  exact w_areturn dX3_find_21 rfl (Nat.le_of_ble_eq_true rfl) (Nat.le_of_ble_eq_true rfl)
set_option maxRecDepth 100000 in
set_option maxHeartbeats 4000000 in
theorem c_X3_find (p1 : Int32) (σ : aSt) (o : Option Nat × aSt) (h : f_X3_find p1 σ = some o) : AM true m_X3_find [va_rf (some (2)), .int (p1)] σ (some (va_rf o.1)) o.2 := by
  refine AM_of2 (lv := [(0, va_rf (some (2))), (1, Value.int (p1))]) (by decide +kernel) rfl (Nat.le_of_ble_eq_true rfl) ?_
  unfold f_X3_find at h
  refine w_iload_n 1 dX3_find_0 rfl rfl ?_
  refine w_iconst (v := 0) dX3_find_1 (by decide) ?_
  refine w_sipush (v := 999) dX3_find_2 (by decide) ?_
  replace h := e_bind h; obtain ⟨q1, e2, h⟩ := h
  refine w_callSN1 (M2 := m_X11_within) (av := [.int (p1), .int (0), .int (999)]) (host := RX11) (c_X11_within _ _ _ _ _ e2) dX3_find_5 kd_X11_within (by decide +kernel) wd_9_23 rfl rfl ⟨Nat.le_of_ble_eq_true rfl, Nat.le_of_ble_eq_true rfl, Nat.le_of_ble_eq_true rfl, Nat.le_of_ble_eq_true rfl⟩ (Nat.le_of_ble_eq_true rfl) ?_
  refine w_if_eq 20 dX3_find_8 (by decide) (fun c3 => ?_) (fun c3 => ?_)
  · replace h := e_t c3 h
    refine w_null dX3_find_20 ?_
    refine w_sub [] rfl ?_
    exact l_X3_find_21 _ _ _ h
  · replace h := e_f c3 h
    refine w_aload_n 0 ((some (2))) dX3_find_11 rfl rfl ?_
    refine w_get (v := va_rf (some 3)) dX3_find_12 fl_RX3_11 ⟨rfl, Or.inr ⟨rfl, by decide⟩⟩ (aFv_k rfl) ?_
    refine w_iload_n 1 dX3_find_15 rfl rfl ?_
    replace h := e_grd h; obtain ⟨b4, h⟩ := h
    refine w_aaloadP dX3_find_16 ⟨rfl, Or.inr ⟨rfl, by decide⟩⟩ b4 ?_
    refine w_goto 21 dX3_find_17 (by decide) ?_
    refine w_sub [] rfl ?_
    exact l_X3_find_21 _ _ _ h
theorem dX4_init_0 : decode cX4_init 0 = .ok (.aload_n 0, 1) := by decide +kernel
theorem dX4_init_1 : decode cX4_init 1 = .ok (.invokespecial 3, 3) := by decide +kernel
theorem dX4_init_4 : decode cX4_init 4 = .ok (.aload_n 0, 1) := by decide +kernel
theorem dX4_init_5 : decode cX4_init 5 = .ok (.ldc 9, 2) := by decide +kernel
theorem dX4_init_7 : decode cX4_init 7 = .ok (.putfield 10, 3) := by decide +kernel
theorem dX4_init_10 : decode cX4_init 10 = .ok (.aload_n 0, 1) := by decide +kernel
theorem dX4_init_11 : decode cX4_init 11 = .ok (.iload_n 1, 1) := by decide +kernel
theorem dX4_init_12 : decode cX4_init 12 = .ok (.putfield 16, 3) := by decide +kernel
theorem dX4_init_15 : decode cX4_init 15 = .ok (.aload_n 0, 1) := by decide +kernel
theorem dX4_init_16 : decode cX4_init 16 = .ok (.iload_n 2, 1) := by decide +kernel
theorem dX4_init_17 : decode cX4_init 17 = .ok (.putfield 19, 3) := by decide +kernel
theorem dX4_init_20 : decode cX4_init 20 = .ok (.aload_n 0, 1) := by decide +kernel
theorem dX4_init_21 : decode cX4_init 21 = .ok (.iload_n 3, 1) := by decide +kernel
theorem dX4_init_22 : decode cX4_init 22 = .ok (.putfield 22, 3) := by decide +kernel
theorem dX4_init_25 : decode cX4_init 25 = .ok (.aload_n 0, 1) := by decide +kernel
theorem dX4_init_26 : decode cX4_init 26 = .ok (.iload 4, 2) := by decide +kernel
theorem dX4_init_28 : decode cX4_init 28 = .ok (.putfield 25, 3) := by decide +kernel
theorem dX4_init_31 : decode cX4_init 31 = .ok (.aload_n 0, 1) := by decide +kernel
theorem dX4_init_32 : decode cX4_init 32 = .ok (.iload 5, 2) := by decide +kernel
theorem dX4_init_34 : decode cX4_init 34 = .ok (.putfield 28, 3) := by decide +kernel
theorem dX4_init_37 : decode cX4_init 37 = .ok (.aload_n 0, 1) := by decide +kernel
theorem dX4_init_38 : decode cX4_init 38 = .ok (.iload 6, 2) := by decide +kernel
theorem dX4_init_40 : decode cX4_init 40 = .ok (.putfield 31, 3) := by decide +kernel
theorem dX4_init_43 : decode cX4_init 43 = .ok (.aload_n 0, 1) := by decide +kernel
theorem dX4_init_44 : decode cX4_init 44 = .ok (.iload 7, 2) := by decide +kernel
theorem dX4_init_46 : decode cX4_init 46 = .ok (.putfield 34, 3) := by decide +kernel
theorem dX4_init_49 : decode cX4_init 49 = .ok (.return_, 1) := by decide +kernel
theorem kd_X4_init : aKd m_X4_init 7 := ⟨wd_14_2, wd_13_18, ⟨by decide +kernel, by decide +kernel, by decide +kernel⟩⟩
set_option maxRecDepth 100000 in
set_option maxHeartbeats 4000000 in
theorem l_X4_init_37  (x0 : Nat) (x6 : Int32) (x7 : Int32) (σ : aSt) (o : Unit × aSt) (h : f_X4_init_37  x0 x6 x7 σ = some o) : AW true m_X4_init 37 [(0, va_rf (some (x0))), (6, Value.int (x6)), (7, Value.int (x7))] [] σ 0 0 none o.2 := by
  unfold f_X4_init_37 at h
  refine w_aload_n 0 ((some (x0))) dX4_init_37 rfl rfl ?_
  refine w_iload 1 dX4_init_38 rfl ?_
  replace h := e_grd h; obtain ⟨g2, h⟩ := h
  refine w_putI dX4_init_40 fl_RX4_31 (Or.inr ⟨rfl, rfl⟩) rfl ⟨g2.1, Or.inl g2.2⟩ ?_
  refine w_aload_n 0 ((some (x0))) dX4_init_43 rfl rfl ?_
  refine w_iload 2 dX4_init_44 rfl ?_
  refine w_putI dX4_init_46 fl_RX4_34 (Or.inr ⟨rfl, rfl⟩) rfl ⟨g2.1, Or.inl g2.2⟩ ?_
  obtain rfl := Option.some.inj h
  exact w_vreturn dX4_init_49 rfl (Nat.le_of_ble_eq_true rfl) (Nat.le_of_ble_eq_true rfl)
set_option maxRecDepth 100000 in
set_option maxHeartbeats 4000000 in
theorem l_X4_init_20  (x0 : Nat) (x3 : Int32) (x4 : Int32) (x5 : Int32) (x6 : Int32) (x7 : Int32) (σ : aSt) (o : Unit × aSt) (h : f_X4_init_20  x0 x3 x4 x5 x6 x7 σ = some o) : AW true m_X4_init 20 [(0, va_rf (some (x0))), (3, Value.int (x3)), (4, Value.int (x4)), (5, Value.int (x5)), (6, Value.int (x6)), (7, Value.int (x7))] [] σ 0 0 none o.2 := by
  unfold f_X4_init_20 at h
  refine w_aload_n 0 ((some (x0))) dX4_init_20 rfl rfl ?_
  refine w_iload_n 1 dX4_init_21 rfl rfl ?_
  replace h := e_grd h; obtain ⟨g3, h⟩ := h
  refine w_putI dX4_init_22 fl_RX4_22 (Or.inr ⟨rfl, rfl⟩) rfl ⟨g3.1, Or.inl g3.2⟩ ?_
  refine w_aload_n 0 ((some (x0))) dX4_init_25 rfl rfl ?_
  refine w_iload 2 dX4_init_26 rfl ?_
  refine w_putI dX4_init_28 fl_RX4_25 (Or.inr ⟨rfl, rfl⟩) rfl ⟨g3.1, Or.inl g3.2⟩ ?_
  refine w_aload_n 0 ((some (x0))) dX4_init_31 rfl rfl ?_
  refine w_iload 3 dX4_init_32 rfl ?_
  refine w_putI dX4_init_34 fl_RX4_28 (Or.inr ⟨rfl, rfl⟩) rfl ⟨g3.1, Or.inl g3.2⟩ ?_
  refine w_sub [0, 4, 5] rfl ?_
  exact l_X4_init_37 _ _ _ _ _ h
set_option maxRecDepth 100000 in
set_option maxHeartbeats 4000000 in
theorem c_X4_init (p0 : Nat) (p1 : Int32) (p2 : Int32) (p3 : Int32) (p4 : Int32) (p5 : Int32) (p6 : Int32) (p7 : Int32) (σ : aSt) (o : Unit × aSt) (h : f_X4_init p0 p1 p2 p3 p4 p5 p6 p7 σ = some o) : AM true m_X4_init [va_rf (some (p0)), .int (p1), .int (p2), .int (p3), .int (p4), .int (p5), .int (p6), .int (p7)] σ none o.2 := by
  refine AM_of2 (lv := [(0, va_rf (some (p0))), (1, Value.int (p1)), (2, Value.int (p2)), (3, Value.int (p3)), (4, Value.int (p4)), (5, Value.int (p5)), (6, Value.int (p6)), (7, Value.int (p7))]) (by decide +kernel) rfl (Nat.le_of_ble_eq_true rfl) ?_
  unfold f_X4_init at h
  refine w_aload_n 0 ((some (p0))) dX4_init_0 rfl rfl ?_
  refine w_objInit dX4_init_1 wd_14_3 wd_1_11 wd_1_12 (by decide) (by decide) ?_
  refine w_aload_n 0 ((some (p0))) dX4_init_4 rfl rfl ?_
  refine w_ldc (v := (-1000000)) dX4_init_5 wd_14_4 ?_
  replace h := e_grd h; obtain ⟨g1, h⟩ := h
  refine w_putI dX4_init_7 fl_RX4_10 (Or.inl rfl) rfl ⟨g1.1, Or.inl g1.2⟩ ?_
  refine w_aload_n 0 ((some (p0))) dX4_init_10 rfl rfl ?_
  refine w_iload_n 1 dX4_init_11 rfl rfl ?_
  refine w_putI dX4_init_12 fl_RX4_16 (Or.inr ⟨rfl, rfl⟩) rfl ⟨g1.1, Or.inl g1.2⟩ ?_
  refine w_aload_n 0 ((some (p0))) dX4_init_15 rfl rfl ?_
  refine w_iload_n 2 dX4_init_16 rfl rfl ?_
  refine w_putI dX4_init_17 fl_RX4_19 (Or.inr ⟨rfl, rfl⟩) rfl ⟨g1.1, Or.inl g1.2⟩ ?_
  refine w_sub [0, 3, 4, 5, 6, 7] rfl ?_
  exact l_X4_init_20 _ _ _ _ _ _ _ _ h
theorem dX4_comesBefore_0 : decode cX4_comesBefore 0 = .ok (.aload_n 0, 1) := by decide +kernel
theorem dX4_comesBefore_1 : decode cX4_comesBefore 1 = .ok (.getfield 19, 3) := by decide +kernel
theorem dX4_comesBefore_4 : decode cX4_comesBefore 4 = .ok (.aload_n 1, 1) := by decide +kernel
theorem dX4_comesBefore_5 : decode cX4_comesBefore 5 = .ok (.getfield 19, 3) := by decide +kernel
theorem dX4_comesBefore_8 : decode cX4_comesBefore 8 = .ok (.if_icmp .eq 22, 3) := by decide +kernel
theorem dX4_comesBefore_11 : decode cX4_comesBefore 11 = .ok (.aload_n 0, 1) := by decide +kernel
theorem dX4_comesBefore_12 : decode cX4_comesBefore 12 = .ok (.getfield 19, 3) := by decide +kernel
theorem dX4_comesBefore_15 : decode cX4_comesBefore 15 = .ok (.aload_n 1, 1) := by decide +kernel
theorem dX4_comesBefore_16 : decode cX4_comesBefore 16 = .ok (.getfield 19, 3) := by decide +kernel
theorem dX4_comesBefore_19 : decode cX4_comesBefore 19 = .ok (.if_icmp .ge 7, 3) := by decide +kernel
theorem dX4_comesBefore_22 : decode cX4_comesBefore 22 = .ok (.iconst 1, 1) := by decide +kernel
theorem dX4_comesBefore_23 : decode cX4_comesBefore 23 = .ok (.goto 23, 3) := by decide +kernel
theorem dX4_comesBefore_26 : decode cX4_comesBefore 26 = .ok (.iconst 0, 1) := by decide +kernel
theorem dX4_comesBefore_27 : decode cX4_comesBefore 27 = .ok (.goto 19, 3) := by decide +kernel
theorem dX4_comesBefore_30 : decode cX4_comesBefore 30 = .ok (.aload_n 0, 1) := by decide +kernel
theorem dX4_comesBefore_31 : decode cX4_comesBefore 31 = .ok (.getfield 16, 3) := by decide +kernel
theorem dX4_comesBefore_34 : decode cX4_comesBefore 34 = .ok (.aload_n 1, 1) := by decide +kernel
theorem dX4_comesBefore_35 : decode cX4_comesBefore 35 = .ok (.getfield 16, 3) := by decide +kernel
theorem dX4_comesBefore_38 : decode cX4_comesBefore 38 = .ok (.if_icmp .ge 7, 3) := by decide +kernel
theorem dX4_comesBefore_41 : decode cX4_comesBefore 41 = .ok (.iconst 1, 1) := by decide +kernel
theorem dX4_comesBefore_42 : decode cX4_comesBefore 42 = .ok (.goto 4, 3) := by decide +kernel
theorem dX4_comesBefore_45 : decode cX4_comesBefore 45 = .ok (.iconst 0, 1) := by decide +kernel
theorem dX4_comesBefore_46 : decode cX4_comesBefore 46 = .ok (.ireturn, 1) := by decide +kernel
theorem kd_X4_comesBefore : aKd m_X4_comesBefore 1 := ⟨wd_14_21, wd_13_18, ⟨by decide +kernel, by decide +kernel, by decide +kernel⟩⟩
set_option maxRecDepth 100000 in
set_option maxHeartbeats 4000000 in
theorem l_X4_comesBefore_46  (t0 : Int32) (σ : aSt) (o : Int32 × aSt) (h : f_X4_comesBefore_46  t0 σ = some o) : AW true m_X4_comesBefore 46 [] [.int (t0)] σ 0 0 (some (.int o.1)) o.2 := by
  unfold f_X4_comesBefore_46 at h
  replace h := e_grd h; obtain ⟨g8, h⟩ := h
  obtain rfl := Option.some.inj h
  exact w_zreturn dX4_comesBefore_46 rfl (e_nz g8) (Nat.le_of_ble_eq_true rfl) (Nat.le_of_ble_eq_true rfl)
set_option maxRecDepth 100000 in
set_option maxHeartbeats 4000000 in
theorem c_X4_comesBefore (p0 : Nat) (p1 : Option Nat) (σ : aSt) (o : Int32 × aSt) (h : f_X4_comesBefore p0 p1 σ = some o) : AM true m_X4_comesBefore [va_rf (some (p0)), va_rf (p1)] σ (some (.int o.1)) o.2 := by
  refine AM_of2 (lv := [(0, va_rf (some (p0))), (1, va_rf (p1))]) (by decide +kernel) (by simp [lv_args, aRf_cat, aI_cat, aL_cat]) (by simp [lg_sl, aRf_cat, aI_cat, aL_cat]) ?_
  unfold f_X4_comesBefore at h
  refine w_aload_n 0 ((some (p0))) dX4_comesBefore_0 rfl rfl ?_
  replace h := e_grd h; obtain ⟨g1, h⟩ := h
  refine w_get dX4_comesBefore_1 fl_RX4_19 ⟨g1.1, Or.inl g1.2⟩ (aFv_i rfl) ?_
  refine w_aload_n 1 (p1) dX4_comesBefore_4 rfl rfl ?_
  replace h := e_oS h; obtain ⟨a2, r3, h⟩ := h
  rw [r3]
  replace h := e_grd h; obtain ⟨g4, h⟩ := h
  refine w_get dX4_comesBefore_5 fl_RX4_19 ⟨g4.1, Or.inl g4.2⟩ (aFv_i rfl) ?_
  refine w_icmp_eq 30 dX4_comesBefore_8 (by decide) (fun c5 => ?_) (fun c5 => ?_)
  · replace h := e_t c5 h
    refine w_aload_n 0 ((some (p0))) dX4_comesBefore_30 rfl rfl ?_
    refine w_get dX4_comesBefore_31 fl_RX4_16 ⟨g1.1, Or.inl g1.2⟩ (aFv_i rfl) ?_
    refine w_aload_n 1 ((some (a2))) dX4_comesBefore_34 rfl rfl ?_
    refine w_get dX4_comesBefore_35 fl_RX4_16 ⟨g4.1, Or.inl g4.2⟩ (aFv_i rfl) ?_
    refine w_icmp_ge 45 dX4_comesBefore_38 (by decide) (fun c6 => ?_) (fun c6 => ?_)
    · replace h := e_t c6 h
      refine w_iconst (v := 0) dX4_comesBefore_45 (by decide) ?_
      refine w_sub [] rfl ?_
      exact l_X4_comesBefore_46 _ _ _ h
    · replace h := e_f c6 h
      refine w_iconst (v := 1) dX4_comesBefore_41 (by decide) ?_
      refine w_goto 46 dX4_comesBefore_42 (by decide) ?_
      refine w_sub [] rfl ?_
      exact l_X4_comesBefore_46 _ _ _ h
  · replace h := e_f c5 h
    refine w_aload_n 0 ((some (p0))) dX4_comesBefore_11 rfl rfl ?_
    refine w_get dX4_comesBefore_12 fl_RX4_19 ⟨g1.1, Or.inl g1.2⟩ (aFv_i rfl) ?_
    refine w_aload_n 1 ((some (a2))) dX4_comesBefore_15 rfl rfl ?_
    refine w_get dX4_comesBefore_16 fl_RX4_19 ⟨g4.1, Or.inl g4.2⟩ (aFv_i rfl) ?_
    refine w_icmp_ge 26 dX4_comesBefore_19 (by decide) (fun c7 => ?_) (fun c7 => ?_)
    · replace h := e_t c7 h
      refine w_iconst (v := 0) dX4_comesBefore_26 (by decide) ?_
      refine w_goto 46 dX4_comesBefore_27 (by decide) ?_
      refine w_sub [] rfl ?_
      exact l_X4_comesBefore_46 _ _ _ h
    · replace h := e_f c7 h
      refine w_iconst (v := 1) dX4_comesBefore_22 (by decide) ?_
      refine w_goto 46 dX4_comesBefore_23 (by decide) ?_
      refine w_sub [] rfl ?_
      exact l_X4_comesBefore_46 _ _ _ h
theorem dX3_take_0 : decode cX3_take 0 = .ok (.aload_n 0, 1) := by decide +kernel
theorem dX3_take_1 : decode cX3_take 1 = .ok (.getfield 20, 3) := by decide +kernel
theorem dX3_take_4 : decode cX3_take 4 = .ok (.bipush 120, 2) := by decide +kernel
theorem dX3_take_6 : decode cX3_take 6 = .ok (.if_icmp .lt 4, 3) := by decide +kernel
theorem dX3_take_9 : decode cX3_take 9 = .ok (.return_, 1) := by decide +kernel
theorem dX3_take_10 : decode cX3_take 10 = .ok (.aload_n 0, 1) := by decide +kernel
theorem dX3_take_11 : decode cX3_take 11 = .ok (.getfield 20, 3) := by decide +kernel
theorem dX3_take_14 : decode cX3_take 14 = .ok (.istore_n 2, 1) := by decide +kernel
theorem dX3_take_15 : decode cX3_take 15 = .ok (.iload_n 2, 1) := by decide +kernel
theorem dX3_take_16 : decode cX3_take 16 = .ok (.ifCond .le 38, 3) := by decide +kernel
theorem dX3_take_19 : decode cX3_take 19 = .ok (.aload_n 1, 1) := by decide +kernel
theorem dX3_take_20 : decode cX3_take 20 = .ok (.aload_n 0, 1) := by decide +kernel
theorem dX3_take_21 : decode cX3_take 21 = .ok (.getfield 17, 3) := by decide +kernel
theorem dX3_take_24 : decode cX3_take 24 = .ok (.iload_n 2, 1) := by decide +kernel
theorem dX3_take_25 : decode cX3_take 25 = .ok (.iconst 1, 1) := by decide +kernel
theorem dX3_take_26 : decode cX3_take 26 = .ok (.isub, 1) := by decide +kernel
theorem dX3_take_27 : decode cX3_take 27 = .ok (.aaload, 1) := by decide +kernel
theorem dX3_take_28 : decode cX3_take 28 = .ok (.invokevirtual 31, 3) := by decide +kernel
theorem dX3_take_31 : decode cX3_take 31 = .ok (.ifCond .eq 23, 3) := by decide +kernel
theorem dX3_take_34 : decode cX3_take 34 = .ok (.aload_n 0, 1) := by decide +kernel
theorem dX3_take_35 : decode cX3_take 35 = .ok (.getfield 17, 3) := by decide +kernel
theorem dX3_take_38 : decode cX3_take 38 = .ok (.iload_n 2, 1) := by decide +kernel
theorem dX3_take_39 : decode cX3_take 39 = .ok (.aload_n 0, 1) := by decide +kernel
theorem dX3_take_40 : decode cX3_take 40 = .ok (.getfield 17, 3) := by decide +kernel
theorem dX3_take_43 : decode cX3_take 43 = .ok (.iload_n 2, 1) := by decide +kernel
theorem dX3_take_44 : decode cX3_take 44 = .ok (.iconst 1, 1) := by decide +kernel
theorem dX3_take_45 : decode cX3_take 45 = .ok (.isub, 1) := by decide +kernel
theorem dX3_take_46 : decode cX3_take 46 = .ok (.aaload, 1) := by decide +kernel
theorem dX3_take_47 : decode cX3_take 47 = .ok (.aastore, 1) := by decide +kernel
theorem dX3_take_48 : decode cX3_take 48 = .ok (.iinc 2 (-1), 3) := by decide +kernel
theorem dX3_take_51 : decode cX3_take 51 = .ok (.goto (-36), 3) := by decide +kernel
theorem dX3_take_54 : decode cX3_take 54 = .ok (.aload_n 0, 1) := by decide +kernel
theorem dX3_take_55 : decode cX3_take 55 = .ok (.getfield 17, 3) := by decide +kernel
theorem dX3_take_58 : decode cX3_take 58 = .ok (.iload_n 2, 1) := by decide +kernel
theorem dX3_take_59 : decode cX3_take 59 = .ok (.aload_n 1, 1) := by decide +kernel
theorem dX3_take_60 : decode cX3_take 60 = .ok (.aastore, 1) := by decide +kernel
theorem dX3_take_61 : decode cX3_take 61 = .ok (.aload_n 0, 1) := by decide +kernel
theorem dX3_take_62 : decode cX3_take 62 = .ok (.getfield 11, 3) := by decide +kernel
theorem dX3_take_65 : decode cX3_take 65 = .ok (.aload_n 1, 1) := by decide +kernel
theorem dX3_take_66 : decode cX3_take 66 = .ok (.getfield 35, 3) := by decide +kernel
theorem dX3_take_69 : decode cX3_take 69 = .ok (.aload_n 1, 1) := by decide +kernel
theorem dX3_take_70 : decode cX3_take 70 = .ok (.aastore, 1) := by decide +kernel
theorem dX3_take_71 : decode cX3_take 71 = .ok (.aload_n 0, 1) := by decide +kernel
theorem dX3_take_72 : decode cX3_take 72 = .ok (.dup, 1) := by decide +kernel
theorem dX3_take_73 : decode cX3_take 73 = .ok (.getfield 20, 3) := by decide +kernel
theorem dX3_take_76 : decode cX3_take 76 = .ok (.iconst 1, 1) := by decide +kernel
theorem dX3_take_77 : decode cX3_take 77 = .ok (.iadd, 1) := by decide +kernel
theorem dX3_take_78 : decode cX3_take 78 = .ok (.putfield 20, 3) := by decide +kernel
theorem dX3_take_81 : decode cX3_take 81 = .ok (.return_, 1) := by decide +kernel
theorem kd_X3_take : aKd m_X3_take 1 := ⟨wd_14_16, wd_1_17, ⟨by decide +kernel, by decide +kernel, by decide +kernel⟩⟩
set_option maxRecDepth 100000 in
set_option maxHeartbeats 4000000 in
theorem l_X3_take_54  (x1 : Nat) (x2 : Int32) (σ : aSt) (o : Unit × aSt) (h : f_X3_take_54  x1 x2 σ = some o) : AW true m_X3_take 54 [(0, va_rf (some (2))), (1, va_rf (some (x1))), (2, Value.int (x2))] [] σ 0 0 none o.2 := by
  unfold f_X3_take_54 at h
  refine w_aload_n 0 ((some (2))) dX3_take_54 rfl rfl ?_
  refine w_get (v := va_rf (some 4)) dX3_take_55 fl_RX3_17 ⟨rfl, Or.inr ⟨rfl, by decide⟩⟩ (aFv_k rfl) ?_
  refine w_iload_n 2 dX3_take_58 rfl rfl ?_
  refine w_aload_n 1 ((some (x1))) dX3_take_59 rfl rfl ?_
  replace h := e_grd h; obtain ⟨b2, h⟩ := h
  replace h := e_grd h; obtain ⟨g3, h⟩ := h
  refine w_aastore (ci := 4) (t0 := 0) dX3_take_60 (Or.inl ⟨rfl, rfl⟩) ⟨rfl, Or.inr ⟨rfl, by decide⟩⟩ ⟨g3.1, Or.inl g3.2⟩ b2 ?_
  refine w_aload_n 0 ((some (2))) dX3_take_61 rfl rfl ?_
  refine w_get (v := va_rf (some 3)) dX3_take_62 fl_RX3_11 ⟨rfl, Or.inr ⟨rfl, by decide⟩⟩ (aFv_k rfl) ?_
  refine w_aload_n 1 ((some (x1))) dX3_take_65 rfl rfl ?_
  refine w_get dX3_take_66 fl_RX3_35 ⟨g3.1, Or.inl g3.2⟩ (aFv_i rfl) ?_
  refine w_aload_n 1 ((some (x1))) dX3_take_69 rfl rfl ?_
  replace h := e_grd h; obtain ⟨b4, h⟩ := h
  refine w_aastore (ci := 4) (t0 := 0) dX3_take_70 (Or.inl ⟨rfl, rfl⟩) ⟨rfl, Or.inr ⟨rfl, by decide⟩⟩ ⟨g3.1, Or.inl g3.2⟩ b4 ?_
  refine w_aload_n 0 ((some (2))) dX3_take_71 rfl rfl ?_
  refine w_dup dX3_take_72 (aRf_cat _) ?_
  refine w_get dX3_take_73 fl_RX3_20 ⟨rfl, Or.inr ⟨rfl, by decide⟩⟩ (aFv_i rfl) ?_
  refine w_iconst (v := 1) dX3_take_76 (by decide) ?_
  refine w_iadd dX3_take_77 ?_
  refine w_putI dX3_take_78 fl_RX3_20 (Or.inl rfl) rfl ⟨rfl, Or.inr ⟨rfl, by decide⟩⟩ ?_
  obtain rfl := Option.some.inj h
  exact w_vreturn dX3_take_81 rfl (Nat.le_of_ble_eq_true rfl) (Nat.le_of_ble_eq_true rfl)
set_option maxRecDepth 100000 in
set_option maxHeartbeats 4000000 in
theorem l_X3_take_15_b (rec15 : Nat → Int32 → aSt → Option (Unit × aSt)) (hrec15 : ∀ (x1 : Nat) (x2 : Int32) (σ : aSt) (o : Unit × aSt), rec15 x1 x2 σ = some o → AW true m_X3_take 15 [(0, va_rf (some (2))), (1, va_rf (some (x1))), (2, Value.int (x2))] [] σ 0 0 none o.2) (x1 : Nat) (x2 : Int32) (σ : aSt) (o : Unit × aSt) (h : f_X3_take_15_b rec15 x1 x2 σ = some o) : AW true m_X3_take 15 [(0, va_rf (some (2))), (1, va_rf (some (x1))), (2, Value.int (x2))] [] σ 0 0 none o.2 := by
  unfold f_X3_take_15_b at h
  refine w_iload_n 2 dX3_take_15 rfl rfl ?_
  refine w_if_le 54 dX3_take_16 (by decide) (fun c5 => ?_) (fun c5 => ?_)
  · replace h := e_t c5 h
    exact l_X3_take_54 _ _ _ _ h
  · replace h := e_f c5 h
    refine w_aload_n 1 ((some (x1))) dX3_take_19 rfl rfl ?_
    refine w_aload_n 0 ((some (2))) dX3_take_20 rfl rfl ?_
    refine w_get (v := va_rf (some 4)) dX3_take_21 fl_RX3_17 ⟨rfl, Or.inr ⟨rfl, by decide⟩⟩ (aFv_k rfl) ?_
    refine w_iload_n 2 dX3_take_24 rfl rfl ?_
    refine w_iconst (v := 1) dX3_take_25 (by decide) ?_
    refine w_isub dX3_take_26 ?_
    replace h := e_grd h; obtain ⟨b6, h⟩ := h
    refine w_aaloadP dX3_take_27 ⟨rfl, Or.inr ⟨rfl, by decide⟩⟩ b6 ?_
    replace h := e_grd h; obtain ⟨g9, h⟩ := h
    replace h := e_bind h; obtain ⟨q7, e8, h⟩ := h
    refine w_callV1 (M2 := m_X4_comesBefore) (av := [va_rf (gR σ 4 (x2 - 1).toNatClampNeg)]) (ci := 4) (c_X4_comesBefore _ _ _ _ e8) dX3_take_28 kd_X4_comesBefore wd_14_18 wd_14_19 wd_14_20 rfl rfl ⟨g9.1, Or.inl g9.2⟩ rfl ⟨Nat.le_of_ble_eq_true rfl, Nat.le_of_ble_eq_true rfl, Nat.le_of_ble_eq_true rfl, Nat.le_of_ble_eq_true rfl⟩ (Nat.le_of_ble_eq_true rfl) ?_
    refine w_if_eq 54 dX3_take_31 (by decide) (fun c10 => ?_) (fun c10 => ?_)
    · replace h := e_t c10 h
      exact l_X3_take_54 _ _ _ _ h
    · replace h := e_f c10 h
      refine w_aload_n 0 ((some (2))) dX3_take_34 rfl rfl ?_
      refine w_get (v := va_rf (some 4)) dX3_take_35 fl_RX3_17 ⟨rfl, Or.inr ⟨rfl, by decide⟩⟩ (aFv_k rfl) ?_
      refine w_iload_n 2 dX3_take_38 rfl rfl ?_
      refine w_aload_n 0 ((some (2))) dX3_take_39 rfl rfl ?_
      refine w_get (v := va_rf (some 4)) dX3_take_40 fl_RX3_17 ⟨rfl, Or.inr ⟨rfl, by decide⟩⟩ (aFv_k rfl) ?_
      refine w_iload_n 2 dX3_take_43 rfl rfl ?_
      refine w_iconst (v := 1) dX3_take_44 (by decide) ?_
      refine w_isub dX3_take_45 ?_
      replace h := e_grd h; obtain ⟨b11, h⟩ := h
      refine w_aaloadP dX3_take_46 ⟨rfl, Or.inr ⟨rfl, by decide⟩⟩ b11 ?_
      replace h := e_oS h; obtain ⟨a12, r13, h⟩ := h
      rw [r13]
      replace h := e_grd h; obtain ⟨b14, h⟩ := h
      replace h := e_grd h; obtain ⟨g15, h⟩ := h
      refine w_aastore (ci := 4) (t0 := 0) dX3_take_47 (Or.inl ⟨rfl, rfl⟩) ⟨rfl, Or.inr ⟨rfl, by decide⟩⟩ ⟨g15.1, Or.inl g15.2⟩ b14 ?_
      refine w_iinc (q := 2) (v := x2 + (-1)) dX3_take_48 rfl rfl (by decide) rfl ?_
      refine w_goto 15 dX3_take_51 (by decide) ?_
      refine w_sub [1, 2, 0] rfl ?_
      exact hrec15 _ _ _ _ h
theorem l_X3_take_15  : ∀ (n : Nat) (x1 : Nat) (x2 : Int32) (σ : aSt) (o : Unit × aSt), f_X3_take_15  n x1 x2 σ = some o → AW true m_X3_take 15 [(0, va_rf (some (2))), (1, va_rf (some (x1))), (2, Value.int (x2))] [] σ 0 0 none o.2
  | 0 => fun x1 x2 σ o h => by cases h
  | n + 1 => fun x1 x2 σ o h => l_X3_take_15_b (f_X3_take_15  n) (l_X3_take_15  n) x1 x2 σ o h
set_option maxRecDepth 100000 in
set_option maxHeartbeats 4000000 in
theorem c_X3_take (p1 : Nat) (σ : aSt) (o : Unit × aSt) (h : f_X3_take p1 σ = some o) : AM true m_X3_take [va_rf (some (2)), va_rf (some (p1))] σ none o.2 := by
  refine AM_of2 (lv := [(0, va_rf (some (2))), (1, va_rf (some (p1)))]) (by decide +kernel) rfl (Nat.le_of_ble_eq_true rfl) ?_
  unfold f_X3_take at h
  refine w_aload_n 0 ((some (2))) dX3_take_0 rfl rfl ?_
  refine w_get dX3_take_1 fl_RX3_20 ⟨rfl, Or.inr ⟨rfl, by decide⟩⟩ (aFv_i rfl) ?_
  refine w_bipush (v := 120) dX3_take_4 (by decide) ?_
  refine w_icmp_lt 10 dX3_take_6 (by decide) (fun c1 => ?_) (fun c1 => ?_)
  · replace h := e_t c1 h
    refine w_aload_n 0 ((some (2))) dX3_take_10 rfl rfl ?_
    refine w_get dX3_take_11 fl_RX3_20 ⟨rfl, Or.inr ⟨rfl, by decide⟩⟩ (aFv_i rfl) ?_
    refine w_istore_n dX3_take_14 rfl (by decide) rfl ?_
    refine w_sub [1, 2, 0] rfl ?_
    exact l_X3_take_15 aN _ _ _ _ h
  · replace h := e_f c1 h
    obtain rfl := Option.some.inj h
    exact w_vreturn dX3_take_9 rfl (Nat.le_of_ble_eq_true rfl) (Nat.le_of_ble_eq_true rfl)
theorem dX2_forget_0 : decode cX2_forget 0 = .ok (.aload_n 0, 1) := by decide +kernel
theorem dX2_forget_1 : decode cX2_forget 1 = .ok (.getfield 35, 3) := by decide +kernel
theorem dX2_forget_4 : decode cX2_forget 4 = .ok (.iconst (-1), 1) := by decide +kernel
theorem dX2_forget_5 : decode cX2_forget 5 = .ok (.invokestatic 53, 3) := by decide +kernel
theorem dX2_forget_8 : decode cX2_forget 8 = .ok (.return_, 1) := by decide +kernel
theorem kd_X2_forget : aKd m_X2_forget 0 := ⟨wd_6_7, wd_2_5, ⟨by decide +kernel, by decide +kernel, by decide +kernel⟩⟩
set_option maxRecDepth 100000 in
set_option maxHeartbeats 4000000 in
theorem c_X2_forget  (σ : aSt) (o : Unit × aSt) (h : f_X2_forget  σ = some o) : AM true m_X2_forget [va_rf (some (11))] σ none o.2 := by
  refine AM_of2 (lv := [(0, va_rf (some (11)))]) (by decide +kernel) rfl (Nat.le_of_ble_eq_true rfl) ?_
  unfold f_X2_forget at h
  refine w_aload_n 0 ((some (11))) dX2_forget_0 rfl rfl ?_
  refine w_get (v := va_rf (some 23)) dX2_forget_1 fl_RX2_35 ⟨rfl, Or.inr ⟨rfl, by decide⟩⟩ (aFv_k rfl) ?_
  refine w_iconst (v := (-1)) dX2_forget_4 (by decide) ?_
  replace h := e_bind h; obtain ⟨q1, e2, h⟩ := h
  refine w_callS0 (M2 := m_J7_fill_53178) (av := [va_rf (some (23)), .int ((-1))]) (c_J7_fill_53178 _ _ _ _ e2) dX2_forget_5 kd_J7_fill_53178 wd_6_8 wd_6_9 rfl rfl ⟨Nat.le_of_ble_eq_true rfl, Nat.le_of_ble_eq_true rfl, Nat.le_of_ble_eq_true rfl, Nat.le_of_ble_eq_true rfl⟩ (Nat.le_of_ble_eq_true rfl) ?_
  obtain rfl := Option.some.inj h
  exact w_vreturn dX2_forget_8 rfl (Nat.le_of_ble_eq_true rfl) (Nat.le_of_ble_eq_true rfl)
theorem dX11_admit_0 : decode cX11_admit 0 = .ok (.iload_n 1, 1) := by decide +kernel
theorem dX11_admit_1 : decode cX11_admit 1 = .ok (.iconst 0, 1) := by decide +kernel
theorem dX11_admit_2 : decode cX11_admit 2 = .ok (.sipush 999, 3) := by decide +kernel
theorem dX11_admit_5 : decode cX11_admit 5 = .ok (.invokestatic 89, 3) := by decide +kernel
theorem dX11_admit_8 : decode cX11_admit 8 = .ok (.ifCond .eq 13, 3) := by decide +kernel
theorem dX11_admit_11 : decode cX11_admit 11 = .ok (.iload_n 2, 1) := by decide +kernel
theorem dX11_admit_12 : decode cX11_admit 12 = .ok (.iconst 0, 1) := by decide +kernel
theorem dX11_admit_13 : decode cX11_admit 13 = .ok (.ldc 238, 2) := by decide +kernel
theorem dX11_admit_15 : decode cX11_admit 15 = .ok (.invokestatic 89, 3) := by decide +kernel
theorem dX11_admit_18 : decode cX11_admit 18 = .ok (.ifCond .ne 6, 3) := by decide +kernel
theorem dX11_admit_21 : decode cX11_admit 21 = .ok (.ldc 93, 2) := by decide +kernel
theorem dX11_admit_23 : decode cX11_admit 23 = .ok (.ireturn, 1) := by decide +kernel
theorem dX11_admit_24 : decode cX11_admit 24 = .ok (.iload_n 3, 1) := by decide +kernel
theorem dX11_admit_25 : decode cX11_admit 25 = .ok (.iconst 0, 1) := by decide +kernel
theorem dX11_admit_26 : decode cX11_admit 26 = .ok (.bipush 19, 2) := by decide +kernel
theorem dX11_admit_28 : decode cX11_admit 28 = .ok (.invokestatic 89, 3) := by decide +kernel
theorem dX11_admit_31 : decode cX11_admit 31 = .ok (.ifCond .eq 20, 3) := by decide +kernel
theorem dX11_admit_34 : decode cX11_admit 34 = .ok (.iload 4, 2) := by decide +kernel
theorem dX11_admit_36 : decode cX11_admit 36 = .ok (.iconst 0, 1) := by decide +kernel
theorem dX11_admit_37 : decode cX11_admit 37 = .ok (.bipush 19, 2) := by decide +kernel
theorem dX11_admit_39 : decode cX11_admit 39 = .ok (.invokestatic 89, 3) := by decide +kernel
theorem dX11_admit_42 : decode cX11_admit 42 = .ok (.ifCond .eq 9, 3) := by decide +kernel
theorem dX11_admit_45 : decode cX11_admit 45 = .ok (.iload_n 3, 1) := by decide +kernel
theorem dX11_admit_46 : decode cX11_admit 46 = .ok (.iload 4, 2) := by decide +kernel
theorem dX11_admit_48 : decode cX11_admit 48 = .ok (.if_icmp .ne 6, 3) := by decide +kernel
theorem dX11_admit_51 : decode cX11_admit 51 = .ok (.ldc 93, 2) := by decide +kernel
theorem dX11_admit_53 : decode cX11_admit 53 = .ok (.ireturn, 1) := by decide +kernel
theorem dX11_admit_54 : decode cX11_admit 54 = .ok (.iload 5, 2) := by decide +kernel
theorem dX11_admit_56 : decode cX11_admit 56 = .ok (.iconst 1, 1) := by decide +kernel
theorem dX11_admit_57 : decode cX11_admit 57 = .ok (.ldc 238, 2) := by decide +kernel
theorem dX11_admit_59 : decode cX11_admit 59 = .ok (.invokestatic 89, 3) := by decide +kernel
theorem dX11_admit_62 : decode cX11_admit 62 = .ok (.ifCond .eq 13, 3) := by decide +kernel
theorem dX11_admit_65 : decode cX11_admit 65 = .ok (.iload 6, 2) := by decide +kernel
theorem dX11_admit_67 : decode cX11_admit 67 = .ok (.iconst 0, 1) := by decide +kernel
theorem dX11_admit_68 : decode cX11_admit 68 = .ok (.iconst 3, 1) := by decide +kernel
theorem dX11_admit_69 : decode cX11_admit 69 = .ok (.invokestatic 89, 3) := by decide +kernel
theorem dX11_admit_72 : decode cX11_admit 72 = .ok (.ifCond .ne 6, 3) := by decide +kernel
theorem dX11_admit_75 : decode cX11_admit 75 = .ok (.ldc 93, 2) := by decide +kernel
theorem dX11_admit_77 : decode cX11_admit 77 = .ok (.ireturn, 1) := by decide +kernel
theorem dX11_admit_78 : decode cX11_admit 78 = .ok (.aload_n 0, 1) := by decide +kernel
theorem dX11_admit_79 : decode cX11_admit 79 = .ok (.getfield 18, 3) := by decide +kernel
theorem dX11_admit_82 : decode cX11_admit 82 = .ok (.iload_n 1, 1) := by decide +kernel
theorem dX11_admit_83 : decode cX11_admit 83 = .ok (.invokevirtual 141, 3) := by decide +kernel
theorem dX11_admit_86 : decode cX11_admit 86 = .ok (.ifnull 7, 3) := by decide +kernel
theorem dX11_admit_89 : decode cX11_admit 89 = .ok (.ldc_w 347, 3) := by decide +kernel
theorem dX11_admit_92 : decode cX11_admit 92 = .ok (.ireturn, 1) := by decide +kernel
theorem dX11_admit_93 : decode cX11_admit 93 = .ok (.aload_n 0, 1) := by decide +kernel
theorem dX11_admit_94 : decode cX11_admit 94 = .ok (.getfield 18, 3) := by decide +kernel
theorem dX11_admit_97 : decode cX11_admit 97 = .ok (.getfield 333, 3) := by decide +kernel
theorem dX11_admit_100 : decode cX11_admit 100 = .ok (.bipush 120, 2) := by decide +kernel
theorem dX11_admit_102 : decode cX11_admit 102 = .ok (.if_icmp .lt 6, 3) := by decide +kernel
theorem dX11_admit_105 : decode cX11_admit 105 = .ok (.ldc 198, 2) := by decide +kernel
theorem dX11_admit_107 : decode cX11_admit 107 = .ok (.ireturn, 1) := by decide +kernel
theorem dX11_admit_108 : decode cX11_admit 108 = .ok (.new 146, 3) := by decide +kernel
theorem dX11_admit_111 : decode cX11_admit 111 = .ok (.dup, 1) := by decide +kernel
theorem dX11_admit_112 : decode cX11_admit 112 = .ok (.iload_n 1, 1) := by decide +kernel
theorem dX11_admit_113 : decode cX11_admit 113 = .ok (.iload_n 2, 1) := by decide +kernel
theorem dX11_admit_114 : decode cX11_admit 114 = .ok (.iload_n 3, 1) := by decide +kernel
theorem dX11_admit_115 : decode cX11_admit 115 = .ok (.iload 4, 2) := by decide +kernel
theorem dX11_admit_117 : decode cX11_admit 117 = .ok (.iload 5, 2) := by decide +kernel
theorem dX11_admit_119 : decode cX11_admit 119 = .ok (.iload 6, 2) := by decide +kernel
theorem dX11_admit_121 : decode cX11_admit 121 = .ok (.aload_n 0, 1) := by decide +kernel
theorem dX11_admit_122 : decode cX11_admit 122 = .ok (.getfield 18, 3) := by decide +kernel
theorem dX11_admit_125 : decode cX11_admit 125 = .ok (.getfield 333, 3) := by decide +kernel
theorem dX11_admit_128 : decode cX11_admit 128 = .ok (.invokespecial 348, 3) := by decide +kernel
theorem dX11_admit_131 : decode cX11_admit 131 = .ok (.astore 7, 2) := by decide +kernel
theorem dX11_admit_133 : decode cX11_admit 133 = .ok (.aload_n 0, 1) := by decide +kernel
theorem dX11_admit_134 : decode cX11_admit 134 = .ok (.getfield 18, 3) := by decide +kernel
theorem dX11_admit_137 : decode cX11_admit 137 = .ok (.aload 7, 2) := by decide +kernel
theorem dX11_admit_139 : decode cX11_admit 139 = .ok (.invokevirtual 351, 3) := by decide +kernel
theorem dX11_admit_142 : decode cX11_admit 142 = .ok (.aload_n 0, 1) := by decide +kernel
theorem dX11_admit_143 : decode cX11_admit 143 = .ok (.getfield 43, 3) := by decide +kernel
theorem dX11_admit_146 : decode cX11_admit 146 = .ok (.invokevirtual 182, 3) := by decide +kernel
theorem dX11_admit_149 : decode cX11_admit 149 = .ok (.aload 7, 2) := by decide +kernel
theorem dX11_admit_151 : decode cX11_admit 151 = .ok (.getfield 145, 3) := by decide +kernel
theorem dX11_admit_154 : decode cX11_admit 154 = .ok (.ireturn, 1) := by decide +kernel
theorem kd_X11_admit : aKd m_X11_admit 6 := ⟨wd_13_11, wd_1_2, ⟨by decide +kernel, by decide +kernel, by decide +kernel⟩⟩
set_option maxRecDepth 100000 in
set_option maxHeartbeats 4000000 in
theorem l_X11_admit_21  (cu : Nat) (su : Nat) (σ : aSt) (o : Int32 × aSt) (h : f_X11_admit_21  cu su σ = some o) : AW true m_X11_admit 21 [] [] σ cu su (some (.int o.1)) o.2 := by
  unfold f_X11_admit_21 at h
  replace h := e_grd h; obtain ⟨gcu, h⟩ := h
  refine w_ldc (v := (-1000001)) dX11_admit_21 wd_9_18 ?_
  obtain rfl := Option.some.inj h
  exact w_ireturn dX11_admit_23 rfl (by exact gcu.1) (by exact gcu.2)
set_option maxRecDepth 100000 in
set_option maxHeartbeats 4000000 in
theorem l_X11_admit_51  (cu : Nat) (su : Nat) (σ : aSt) (o : Int32 × aSt) (h : f_X11_admit_51  cu su σ = some o) : AW true m_X11_admit 51 [] [] σ cu su (some (.int o.1)) o.2 := by
  unfold f_X11_admit_51 at h
  replace h := e_grd h; obtain ⟨gcu, h⟩ := h
  refine w_ldc (v := (-1000001)) dX11_admit_51 wd_9_18 ?_
  obtain rfl := Option.some.inj h
  exact w_ireturn dX11_admit_53 rfl (by exact gcu.1) (by exact gcu.2)
set_option maxRecDepth 100000 in
set_option maxHeartbeats 4000000 in
theorem l_X11_admit_75  (cu : Nat) (su : Nat) (σ : aSt) (o : Int32 × aSt) (h : f_X11_admit_75  cu su σ = some o) : AW true m_X11_admit 75 [] [] σ cu su (some (.int o.1)) o.2 := by
  unfold f_X11_admit_75 at h
  replace h := e_grd h; obtain ⟨gcu, h⟩ := h
  refine w_ldc (v := (-1000001)) dX11_admit_75 wd_9_18 ?_
  obtain rfl := Option.some.inj h
  exact w_ireturn dX11_admit_77 rfl (by exact gcu.1) (by exact gcu.2)
set_option maxRecDepth 100000 in
set_option maxHeartbeats 4000000 in
theorem c_X11_admit (p1 : Int32) (p2 : Int32) (p3 : Int32) (p4 : Int32) (p5 : Int32) (p6 : Int32) (σ : aSt) (o : Int32 × aSt) (h : f_X11_admit p1 p2 p3 p4 p5 p6 σ = some o) : AM true m_X11_admit [va_rf (some (0)), .int (p1), .int (p2), .int (p3), .int (p4), .int (p5), .int (p6)] σ (some (.int o.1)) o.2 := by
  refine AM_of2 (lv := [(0, va_rf (some (0))), (1, Value.int (p1)), (2, Value.int (p2)), (3, Value.int (p3)), (4, Value.int (p4)), (5, Value.int (p5)), (6, Value.int (p6))]) (by decide +kernel) rfl (Nat.le_of_ble_eq_true rfl) ?_
  unfold f_X11_admit at h
  refine w_iload_n 1 dX11_admit_0 rfl rfl ?_
  refine w_iconst (v := 0) dX11_admit_1 (by decide) ?_
  refine w_sipush (v := 999) dX11_admit_2 (by decide) ?_
  replace h := e_bind h; obtain ⟨q1, e2, h⟩ := h
  refine w_callS1 (M2 := m_X11_within) (av := [.int (p1), .int (0), .int (999)]) (c_X11_within _ _ _ _ _ e2) dX11_admit_5 kd_X11_within wd_9_22 wd_9_23 rfl rfl ⟨Nat.le_of_ble_eq_true rfl, Nat.le_of_ble_eq_true rfl, by exact Nat.zero_le _, by exact Nat.zero_le _⟩ (Nat.le_of_ble_eq_true rfl) ?_
  refine w_if_eq 21 dX11_admit_8 (by decide) (fun c3 => ?_) (fun c3 => ?_)
  · replace h := e_t c3 h
    refine w_sub [] rfl ?_
    exact l_X11_admit_21 _ _ _ _ h
  · replace h := e_f c3 h
    refine w_iload_n 2 dX11_admit_11 rfl rfl ?_
    refine w_iconst (v := 0) dX11_admit_12 (by decide) ?_
    refine w_ldc (v := 100000) dX11_admit_13 wd_13_12 ?_
    replace h := e_bind h; obtain ⟨q4, e5, h⟩ := h
    refine w_callS1 (M2 := m_X11_within) (av := [.int (p2), .int (0), .int (100000)]) (c_X11_within _ _ _ _ _ e5) dX11_admit_15 kd_X11_within wd_9_22 wd_9_23 rfl rfl ⟨Nat.le_of_ble_eq_true rfl, Nat.le_of_ble_eq_true rfl, by exact Nat.zero_le _, by exact Nat.zero_le _⟩ (Nat.le_of_ble_eq_true rfl) ?_
    refine w_if_ne 24 dX11_admit_18 (by decide) (fun c6 => ?_) (fun c6 => ?_)
    · replace h := e_f c6 h
      refine w_iload_n 3 dX11_admit_24 rfl rfl ?_
      refine w_iconst (v := 0) dX11_admit_25 (by decide) ?_
      refine w_bipush (v := 19) dX11_admit_26 (by decide) ?_
      replace h := e_bind h; obtain ⟨q7, e8, h⟩ := h
      refine w_callS1 (M2 := m_X11_within) (av := [.int (p3), .int (0), .int (19)]) (c_X11_within _ _ _ _ _ e8) dX11_admit_28 kd_X11_within wd_9_22 wd_9_23 rfl rfl ⟨Nat.le_of_ble_eq_true rfl, Nat.le_of_ble_eq_true rfl, by exact Nat.zero_le _, by exact Nat.zero_le _⟩ (Nat.le_of_ble_eq_true rfl) ?_
      refine w_if_eq 51 dX11_admit_31 (by decide) (fun c9 => ?_) (fun c9 => ?_)
      · replace h := e_t c9 h
        refine w_sub [] rfl ?_
        exact l_X11_admit_51 _ _ _ _ h
      · replace h := e_f c9 h
        refine w_iload 4 dX11_admit_34 rfl ?_
        refine w_iconst (v := 0) dX11_admit_36 (by decide) ?_
        refine w_bipush (v := 19) dX11_admit_37 (by decide) ?_
        replace h := e_bind h; obtain ⟨q10, e11, h⟩ := h
        refine w_callS1 (M2 := m_X11_within) (av := [.int (p4), .int (0), .int (19)]) (c_X11_within _ _ _ _ _ e11) dX11_admit_39 kd_X11_within wd_9_22 wd_9_23 rfl rfl ⟨Nat.le_of_ble_eq_true rfl, Nat.le_of_ble_eq_true rfl, by exact Nat.zero_le _, by exact Nat.zero_le _⟩ (Nat.le_of_ble_eq_true rfl) ?_
        refine w_if_eq 51 dX11_admit_42 (by decide) (fun c12 => ?_) (fun c12 => ?_)
        · replace h := e_t c12 h
          refine w_sub [] rfl ?_
          exact l_X11_admit_51 _ _ _ _ h
        · replace h := e_f c12 h
          refine w_iload_n 3 dX11_admit_45 rfl rfl ?_
          refine w_iload 4 dX11_admit_46 rfl ?_
          refine w_icmp_ne 54 dX11_admit_48 (by decide) (fun c13 => ?_) (fun c13 => ?_)
          · replace h := e_f c13 h
            refine w_iload 5 dX11_admit_54 rfl ?_
            refine w_iconst (v := 1) dX11_admit_56 (by decide) ?_
            refine w_ldc (v := 100000) dX11_admit_57 wd_13_12 ?_
            replace h := e_bind h; obtain ⟨q14, e15, h⟩ := h
            refine w_callS1 (M2 := m_X11_within) (av := [.int (p5), .int (1), .int (100000)]) (c_X11_within _ _ _ _ _ e15) dX11_admit_59 kd_X11_within wd_9_22 wd_9_23 rfl rfl ⟨Nat.le_of_ble_eq_true rfl, Nat.le_of_ble_eq_true rfl, by exact Nat.zero_le _, by exact Nat.zero_le _⟩ (Nat.le_of_ble_eq_true rfl) ?_
            refine w_if_eq 75 dX11_admit_62 (by decide) (fun c16 => ?_) (fun c16 => ?_)
            · replace h := e_t c16 h
              refine w_sub [] rfl ?_
              exact l_X11_admit_75 _ _ _ _ h
            · replace h := e_f c16 h
              refine w_iload 6 dX11_admit_65 rfl ?_
              refine w_iconst (v := 0) dX11_admit_67 (by decide) ?_
              refine w_iconst (v := 3) dX11_admit_68 (by decide) ?_
              replace h := e_bind h; obtain ⟨q17, e18, h⟩ := h
              refine w_callS1 (M2 := m_X11_within) (av := [.int (p6), .int (0), .int (3)]) (c_X11_within _ _ _ _ _ e18) dX11_admit_69 kd_X11_within wd_9_22 wd_9_23 rfl rfl ⟨Nat.le_of_ble_eq_true rfl, Nat.le_of_ble_eq_true rfl, by exact Nat.zero_le _, by exact Nat.zero_le _⟩ (Nat.le_of_ble_eq_true rfl) ?_
              refine w_if_ne 78 dX11_admit_72 (by decide) (fun c19 => ?_) (fun c19 => ?_)
              · replace h := e_f c19 h
                refine w_aload_n 0 ((some (0))) dX11_admit_78 rfl rfl ?_
                refine w_get (v := va_rf (some 2)) dX11_admit_79 fl_RX11_18 ⟨rfl, Or.inr ⟨rfl, by decide⟩⟩ (aFv_k rfl) ?_
                refine w_iload_n 1 dX11_admit_82 rfl rfl ?_
                replace h := e_bind h; obtain ⟨q20, e21, h⟩ := h
                refine w_callV1 (M2 := m_X3_find) (av := [.int (p1)]) (ci := 3) (c_X3_find _ _ _ e21) dX11_admit_83 kd_X3_find wd_13_20 wd_13_21 wd_13_22 rfl rfl ⟨rfl, Or.inr ⟨rfl, by decide⟩⟩ rfl ⟨Nat.le_of_ble_eq_true rfl, Nat.le_of_ble_eq_true rfl, by exact Nat.zero_le _, by exact Nat.zero_le _⟩ (Nat.le_of_ble_eq_true rfl) ?_
                replace h := e_oC h; rcases h with ⟨r33, h⟩ | ⟨a22, r33, h⟩
                · rw [r33]
                  refine w_ifnull0 93 dX11_admit_86 (by decide) ?_
                  refine w_aload_n 0 ((some (0))) dX11_admit_93 rfl rfl ?_
                  refine w_get (v := va_rf (some 2)) dX11_admit_94 fl_RX11_18 ⟨rfl, Or.inr ⟨rfl, by decide⟩⟩ (aFv_k rfl) ?_
                  refine w_get dX11_admit_97 fl_RX11_333 ⟨rfl, Or.inr ⟨rfl, by decide⟩⟩ (aFv_i rfl) ?_
                  refine w_bipush (v := 120) dX11_admit_100 (by decide) ?_
                  refine w_icmp_lt 108 dX11_admit_102 (by decide) (fun c23 => ?_) (fun c23 => ?_)
                  · replace h := e_t c23 h
                    replace h := e_grd h; obtain ⟨g24, h⟩ := h
                    refine w_new dX11_admit_108 cl_RX11_146 g24.1 g24.2.1 g24.2.2 ?_
                    refine w_dup dX11_admit_111 (aRf_cat _) ?_
                    refine w_iload_n 1 dX11_admit_112 rfl rfl ?_
                    refine w_iload_n 2 dX11_admit_113 rfl rfl ?_
                    refine w_iload_n 3 dX11_admit_114 rfl rfl ?_
                    refine w_iload 4 dX11_admit_115 rfl ?_
                    refine w_iload 5 dX11_admit_117 rfl ?_
                    refine w_iload 6 dX11_admit_119 rfl ?_
                    refine w_aload_n 0 ((some (0))) dX11_admit_121 rfl rfl ?_
                    refine w_get (v := va_rf (some 2)) dX11_admit_122 fl_RX11_18 ⟨rfl, Or.inr ⟨rfl, by decide⟩⟩ (aFv_k rfl) ?_
                    refine w_get dX11_admit_125 fl_RX11_333 ⟨rfl, Or.inr ⟨rfl, by decide⟩⟩ (aFv_i rfl) ?_
                    replace h := e_bind h; obtain ⟨q26, e27, h⟩ := h
                    refine w_callI (M2 := m_X4_init) (av := [.int (p1), .int (p2), .int (p3), .int (p4), .int (p5), .int (p6), .int (gI (sN q20.2) 2 2)]) (c_X4_init _ _ _ _ _ _ _ _ _ _ e27) dX11_admit_128 kd_X4_init rfl rfl wd_14_0 wd_14_1 rfl rfl ⟨Nat.le_of_ble_eq_true rfl, Nat.le_of_ble_eq_true rfl, by exact g24.2.1, by exact g24.2.2⟩ (Nat.le_of_ble_eq_true rfl) ?_
                    refine w_astore dX11_admit_131 (by decide) rfl ?_
                    refine w_aload_n 1 ((some (0))) dX11_admit_133 rfl rfl ?_
                    refine w_get (v := va_rf (some 2)) dX11_admit_134 fl_RX11_18 ⟨rfl, Or.inr ⟨rfl, by decide⟩⟩ (aFv_k rfl) ?_
                    refine w_aload 0 ((some ((gN q20.2)))) dX11_admit_137 rfl ?_
                    replace h := e_bind h; obtain ⟨q28, e29, h⟩ := h
                    refine w_callV0 (M2 := m_X3_take) (av := [va_rf (some ((gN q20.2)))]) (ci := 3) (c_X3_take _ _ _ e29) dX11_admit_139 kd_X3_take wd_14_13 wd_14_14 wd_14_15 rfl rfl ⟨rfl, Or.inr ⟨rfl, by decide⟩⟩ rfl ⟨Nat.le_of_ble_eq_true rfl, Nat.le_of_ble_eq_true rfl, by exact g24.2.1, by exact g24.2.2⟩ (Nat.le_of_ble_eq_true rfl) ?_
                    refine w_aload_n 1 ((some (0))) dX11_admit_142 rfl rfl ?_
                    refine w_get (v := va_rf (some 11)) dX11_admit_143 fl_RX11_43 ⟨rfl, Or.inr ⟨rfl, by decide⟩⟩ (aFv_k rfl) ?_
                    replace h := e_bind h; obtain ⟨q30, e31, h⟩ := h
                    refine w_callV0 (M2 := m_X2_forget) (av := []) (ci := 2) (c_X2_forget  _ _ e31) dX11_admit_146 kd_X2_forget wd_14_22 wd_6_5 wd_6_6 rfl rfl ⟨rfl, Or.inr ⟨rfl, by decide⟩⟩ rfl ⟨Nat.le_of_ble_eq_true rfl, Nat.le_of_ble_eq_true rfl, by exact g24.2.1, by exact g24.2.2⟩ (Nat.le_of_ble_eq_true rfl) ?_
                    refine w_aload 0 ((some ((gN q20.2)))) dX11_admit_149 rfl ?_
                    replace h := e_grd h; obtain ⟨g32, h⟩ := h
                    refine w_get dX11_admit_151 fl_RX11_145 ⟨g32.1, Or.inl g32.2⟩ (aFv_i rfl) ?_
                    obtain rfl := Option.some.inj h
                    exact w_ireturn dX11_admit_154 rfl (by exact g24.2.1) (by exact g24.2.2)
                  · replace h := e_f c23 h
                    refine w_ldc (v := (-1000003)) dX11_admit_105 wd_13_15 ?_
                    obtain rfl := Option.some.inj h
                    exact w_ireturn dX11_admit_107 rfl (by exact Nat.zero_le _) (by exact Nat.zero_le _)
                · rw [r33]
                  refine w_ifnull1 dX11_admit_86 ?_
                  refine w_ldcw (v := (-1000002)) dX11_admit_89 wd_13_13 ?_
                  obtain rfl := Option.some.inj h
                  exact w_ireturn dX11_admit_92 rfl (by exact Nat.zero_le _) (by exact Nat.zero_le _)
              · replace h := e_t c19 h
                refine w_sub [] rfl ?_
                exact l_X11_admit_75 _ _ _ _ h
          · replace h := e_t c13 h
            refine w_sub [] rfl ?_
            exact l_X11_admit_51 _ _ _ _ h
    · replace h := e_t c6 h
      refine w_sub [] rfl ?_
      exact l_X11_admit_21 _ _ _ _ h
theorem dX11_pay_0 : decode cX11_pay 0 = .ok (.aload_n 0, 1) := by decide +kernel
theorem dX11_pay_1 : decode cX11_pay 1 = .ok (.iload_n 1, 1) := by decide +kernel
theorem dX11_pay_2 : decode cX11_pay 2 = .ok (.iload_n 2, 1) := by decide +kernel
theorem dX11_pay_3 : decode cX11_pay 3 = .ok (.iload_n 3, 1) := by decide +kernel
theorem dX11_pay_4 : decode cX11_pay 4 = .ok (.iload 4, 2) := by decide +kernel
theorem dX11_pay_6 : decode cX11_pay 6 = .ok (.iload 5, 2) := by decide +kernel
theorem dX11_pay_8 : decode cX11_pay 8 = .ok (.iload 6, 2) := by decide +kernel
theorem dX11_pay_10 : decode cX11_pay 10 = .ok (.invokevirtual 133, 3) := by decide +kernel
theorem dX11_pay_13 : decode cX11_pay 13 = .ok (.ireturn, 1) := by decide +kernel
theorem kd_X11_pay : aKd m_X11_pay 6 := ⟨wd_13_7, wd_1_2, ⟨by decide +kernel, by decide +kernel, by decide +kernel⟩⟩
set_option maxRecDepth 100000 in
set_option maxHeartbeats 4000000 in
theorem c_X11_pay (p1 : Int32) (p2 : Int32) (p3 : Int32) (p4 : Int32) (p5 : Int32) (p6 : Int32) (σ : aSt) (o : Int32 × aSt) (h : f_X11_pay p1 p2 p3 p4 p5 p6 σ = some o) : AM true m_X11_pay [va_rf (some (0)), .int (p1), .int (p2), .int (p3), .int (p4), .int (p5), .int (p6)] σ (some (.int o.1)) o.2 := by
  refine AM_of2 (lv := [(0, va_rf (some (0))), (1, Value.int (p1)), (2, Value.int (p2)), (3, Value.int (p3)), (4, Value.int (p4)), (5, Value.int (p5)), (6, Value.int (p6))]) (by decide +kernel) rfl (Nat.le_of_ble_eq_true rfl) ?_
  unfold f_X11_pay at h
  refine w_aload_n 0 ((some (0))) dX11_pay_0 rfl rfl ?_
  refine w_iload_n 1 dX11_pay_1 rfl rfl ?_
  refine w_iload_n 2 dX11_pay_2 rfl rfl ?_
  refine w_iload_n 3 dX11_pay_3 rfl rfl ?_
  refine w_iload 4 dX11_pay_4 rfl ?_
  refine w_iload 5 dX11_pay_6 rfl ?_
  refine w_iload 6 dX11_pay_8 rfl ?_
  replace h := e_grd h; obtain ⟨g3, h⟩ := h
  replace h := e_bind h; obtain ⟨q1, e2, h⟩ := h
  refine w_callV1 (M2 := m_X11_admit) (av := [.int (p1), .int (p2), .int (p3), .int (p4), .int (p5), .int (p6)]) (ci := 11) (c_X11_admit _ _ _ _ _ _ _ _ e2) dX11_pay_10 kd_X11_admit wd_13_8 wd_13_9 wd_13_10 rfl rfl ⟨rfl, Or.inr ⟨rfl, by decide⟩⟩ rfl ⟨Nat.le_of_ble_eq_true rfl, Nat.le_of_ble_eq_true rfl, g3.1, g3.2⟩ (Nat.le_of_ble_eq_true rfl) ?_
  obtain rfl := Option.some.inj h
  exact w_ireturn dX11_pay_13 rfl (by exact g3.1) (by exact g3.2)
theorem dX11_admitFrom_0 : decode cX11_admitFrom 0 = .ok (.iload_n 2, 1) := by decide +kernel
theorem dX11_admitFrom_1 : decode cX11_admitFrom 1 = .ok (.iconst 0, 1) := by decide +kernel
theorem dX11_admitFrom_2 : decode cX11_admitFrom 2 = .ok (.aload_n 1, 1) := by decide +kernel
theorem dX11_admitFrom_3 : decode cX11_admitFrom 3 = .ok (.arraylength, 1) := by decide +kernel
theorem dX11_admitFrom_4 : decode cX11_admitFrom 4 = .ok (.bipush 6, 2) := by decide +kernel
theorem dX11_admitFrom_6 : decode cX11_admitFrom 6 = .ok (.isub, 1) := by decide +kernel
theorem dX11_admitFrom_7 : decode cX11_admitFrom 7 = .ok (.invokestatic 89, 3) := by decide +kernel
theorem dX11_admitFrom_10 : decode cX11_admitFrom 10 = .ok (.ifCond .ne 6, 3) := by decide +kernel
theorem dX11_admitFrom_13 : decode cX11_admitFrom 13 = .ok (.ldc 93, 2) := by decide +kernel
theorem dX11_admitFrom_15 : decode cX11_admitFrom 15 = .ok (.ireturn, 1) := by decide +kernel
theorem dX11_admitFrom_16 : decode cX11_admitFrom 16 = .ok (.aload_n 0, 1) := by decide +kernel
theorem dX11_admitFrom_17 : decode cX11_admitFrom 17 = .ok (.aload_n 1, 1) := by decide +kernel
theorem dX11_admitFrom_18 : decode cX11_admitFrom 18 = .ok (.iload_n 2, 1) := by decide +kernel
theorem dX11_admitFrom_19 : decode cX11_admitFrom 19 = .ok (.iaload, 1) := by decide +kernel
theorem dX11_admitFrom_20 : decode cX11_admitFrom 20 = .ok (.aload_n 1, 1) := by decide +kernel
theorem dX11_admitFrom_21 : decode cX11_admitFrom 21 = .ok (.iload_n 2, 1) := by decide +kernel
theorem dX11_admitFrom_22 : decode cX11_admitFrom 22 = .ok (.iconst 1, 1) := by decide +kernel
theorem dX11_admitFrom_23 : decode cX11_admitFrom 23 = .ok (.iadd, 1) := by decide +kernel
theorem dX11_admitFrom_24 : decode cX11_admitFrom 24 = .ok (.iaload, 1) := by decide +kernel
theorem dX11_admitFrom_25 : decode cX11_admitFrom 25 = .ok (.aload_n 1, 1) := by decide +kernel
theorem dX11_admitFrom_26 : decode cX11_admitFrom 26 = .ok (.iload_n 2, 1) := by decide +kernel
theorem dX11_admitFrom_27 : decode cX11_admitFrom 27 = .ok (.iconst 2, 1) := by decide +kernel
theorem dX11_admitFrom_28 : decode cX11_admitFrom 28 = .ok (.iadd, 1) := by decide +kernel
theorem dX11_admitFrom_29 : decode cX11_admitFrom 29 = .ok (.iaload, 1) := by decide +kernel
theorem dX11_admitFrom_30 : decode cX11_admitFrom 30 = .ok (.aload_n 1, 1) := by decide +kernel
theorem dX11_admitFrom_31 : decode cX11_admitFrom 31 = .ok (.iload_n 2, 1) := by decide +kernel
theorem dX11_admitFrom_32 : decode cX11_admitFrom 32 = .ok (.iconst 3, 1) := by decide +kernel
theorem dX11_admitFrom_33 : decode cX11_admitFrom 33 = .ok (.iadd, 1) := by decide +kernel
theorem dX11_admitFrom_34 : decode cX11_admitFrom 34 = .ok (.iaload, 1) := by decide +kernel
theorem dX11_admitFrom_35 : decode cX11_admitFrom 35 = .ok (.aload_n 1, 1) := by decide +kernel
theorem dX11_admitFrom_36 : decode cX11_admitFrom 36 = .ok (.iload_n 2, 1) := by decide +kernel
theorem dX11_admitFrom_37 : decode cX11_admitFrom 37 = .ok (.iconst 4, 1) := by decide +kernel
theorem dX11_admitFrom_38 : decode cX11_admitFrom 38 = .ok (.iadd, 1) := by decide +kernel
theorem dX11_admitFrom_39 : decode cX11_admitFrom 39 = .ok (.iaload, 1) := by decide +kernel
theorem dX11_admitFrom_40 : decode cX11_admitFrom 40 = .ok (.aload_n 1, 1) := by decide +kernel
theorem dX11_admitFrom_41 : decode cX11_admitFrom 41 = .ok (.iload_n 2, 1) := by decide +kernel
theorem dX11_admitFrom_42 : decode cX11_admitFrom 42 = .ok (.iconst 5, 1) := by decide +kernel
theorem dX11_admitFrom_43 : decode cX11_admitFrom 43 = .ok (.iadd, 1) := by decide +kernel
theorem dX11_admitFrom_44 : decode cX11_admitFrom 44 = .ok (.iaload, 1) := by decide +kernel
theorem dX11_admitFrom_45 : decode cX11_admitFrom 45 = .ok (.invokevirtual 133, 3) := by decide +kernel
theorem dX11_admitFrom_48 : decode cX11_admitFrom 48 = .ok (.ireturn, 1) := by decide +kernel
theorem kd_X11_admitFrom : aKd m_X11_admitFrom 2 := ⟨wd_16_6, wd_1_2, ⟨by decide +kernel, by decide +kernel, by decide +kernel⟩⟩
set_option maxRecDepth 100000 in
set_option maxHeartbeats 4000000 in
theorem c_X11_admitFrom (p1 : Nat) (p2 : Int32) (σ : aSt) (o : Int32 × aSt) (h : f_X11_admitFrom p1 p2 σ = some o) : AM true m_X11_admitFrom [va_rf (some (0)), va_rf (some (p1)), .int (p2)] σ (some (.int o.1)) o.2 := by
  refine AM_of2 (lv := [(0, va_rf (some (0))), (1, va_rf (some (p1))), (2, Value.int (p2))]) (by decide +kernel) rfl (Nat.le_of_ble_eq_true rfl) ?_
  unfold f_X11_admitFrom at h
  refine w_iload_n 2 dX11_admitFrom_0 rfl rfl ?_
  refine w_iconst (v := 0) dX11_admitFrom_1 (by decide) ?_
  refine w_aload_n 1 ((some (p1))) dX11_admitFrom_2 rfl rfl ?_
  replace h := e_grd h; obtain ⟨g1, h⟩ := h
  refine w_alenI dX11_admitFrom_3 ⟨g1.1, Or.inl g1.2⟩ ?_
  refine w_bipush (v := 6) dX11_admitFrom_4 (by decide) ?_
  refine w_isub dX11_admitFrom_6 ?_
  replace h := e_bind h; obtain ⟨q2, e3, h⟩ := h
  refine w_callS1 (M2 := m_X11_within) (av := [.int (p2), .int (0), .int ((Int32.ofNat (aLn p1)) - 6)]) (c_X11_within _ _ _ _ _ e3) dX11_admitFrom_7 kd_X11_within wd_9_22 wd_9_23 rfl rfl ⟨Nat.le_of_ble_eq_true rfl, Nat.le_of_ble_eq_true rfl, by exact Nat.zero_le _, by exact Nat.zero_le _⟩ (Nat.le_of_ble_eq_true rfl) ?_
  refine w_if_ne 16 dX11_admitFrom_10 (by decide) (fun c4 => ?_) (fun c4 => ?_)
  · replace h := e_f c4 h
    refine w_aload_n 0 ((some (0))) dX11_admitFrom_16 rfl rfl ?_
    refine w_aload_n 1 ((some (p1))) dX11_admitFrom_17 rfl rfl ?_
    refine w_iload_n 2 dX11_admitFrom_18 rfl rfl ?_
    replace h := e_grd h; obtain ⟨g5, h⟩ := h
    replace h := e_grd h; obtain ⟨b6, h⟩ := h
    refine w_iaload dX11_admitFrom_19 ⟨g5.1, Or.inl g5.2⟩ b6 ?_
    refine w_aload_n 1 ((some (p1))) dX11_admitFrom_20 rfl rfl ?_
    refine w_iload_n 2 dX11_admitFrom_21 rfl rfl ?_
    refine w_iconst (v := 1) dX11_admitFrom_22 (by decide) ?_
    refine w_iadd dX11_admitFrom_23 ?_
    replace h := e_grd h; obtain ⟨b7, h⟩ := h
    refine w_iaload dX11_admitFrom_24 ⟨g5.1, Or.inl g5.2⟩ b7 ?_
    refine w_aload_n 1 ((some (p1))) dX11_admitFrom_25 rfl rfl ?_
    refine w_iload_n 2 dX11_admitFrom_26 rfl rfl ?_
    refine w_iconst (v := 2) dX11_admitFrom_27 (by decide) ?_
    refine w_iadd dX11_admitFrom_28 ?_
    replace h := e_grd h; obtain ⟨b8, h⟩ := h
    refine w_iaload dX11_admitFrom_29 ⟨g5.1, Or.inl g5.2⟩ b8 ?_
    refine w_aload_n 1 ((some (p1))) dX11_admitFrom_30 rfl rfl ?_
    refine w_iload_n 2 dX11_admitFrom_31 rfl rfl ?_
    refine w_iconst (v := 3) dX11_admitFrom_32 (by decide) ?_
    refine w_iadd dX11_admitFrom_33 ?_
    replace h := e_grd h; obtain ⟨b9, h⟩ := h
    refine w_iaload dX11_admitFrom_34 ⟨g5.1, Or.inl g5.2⟩ b9 ?_
    refine w_aload_n 1 ((some (p1))) dX11_admitFrom_35 rfl rfl ?_
    refine w_iload_n 2 dX11_admitFrom_36 rfl rfl ?_
    refine w_iconst (v := 4) dX11_admitFrom_37 (by decide) ?_
    refine w_iadd dX11_admitFrom_38 ?_
    replace h := e_grd h; obtain ⟨b10, h⟩ := h
    refine w_iaload dX11_admitFrom_39 ⟨g5.1, Or.inl g5.2⟩ b10 ?_
    refine w_aload_n 1 ((some (p1))) dX11_admitFrom_40 rfl rfl ?_
    refine w_iload_n 2 dX11_admitFrom_41 rfl rfl ?_
    refine w_iconst (v := 5) dX11_admitFrom_42 (by decide) ?_
    refine w_iadd dX11_admitFrom_43 ?_
    replace h := e_grd h; obtain ⟨b11, h⟩ := h
    refine w_iaload dX11_admitFrom_44 ⟨g5.1, Or.inl g5.2⟩ b11 ?_
    replace h := e_grd h; obtain ⟨g14, h⟩ := h
    replace h := e_bind h; obtain ⟨q12, e13, h⟩ := h
    refine w_callV1 (M2 := m_X11_admit) (av := [.int (gI q2.2 p1 p2.toNatClampNeg), .int (gI q2.2 p1 (p2 + 1).toNatClampNeg), .int (gI q2.2 p1 (p2 + 2).toNatClampNeg), .int (gI q2.2 p1 (p2 + 3).toNatClampNeg), .int (gI q2.2 p1 (p2 + 4).toNatClampNeg), .int (gI q2.2 p1 (p2 + 5).toNatClampNeg)]) (ci := 11) (c_X11_admit _ _ _ _ _ _ _ _ e13) dX11_admitFrom_45 kd_X11_admit wd_13_8 wd_13_9 wd_13_10 rfl rfl ⟨rfl, Or.inr ⟨rfl, by decide⟩⟩ rfl ⟨Nat.le_of_ble_eq_true rfl, Nat.le_of_ble_eq_true rfl, g14.1, g14.2⟩ (Nat.le_of_ble_eq_true rfl) ?_
    obtain rfl := Option.some.inj h
    exact w_ireturn dX11_admitFrom_48 rfl (by exact g14.1) (by exact g14.2)
  · replace h := e_t c4 h
    refine w_ldc (v := (-1000001)) dX11_admitFrom_13 wd_9_18 ?_
    obtain rfl := Option.some.inj h
    exact w_ireturn dX11_admitFrom_15 rfl (by exact Nat.zero_le _) (by exact Nat.zero_le _)
theorem dX11_batch_0 : decode cX11_batch 0 = .ok (.iload_n 1, 1) := by decide +kernel
theorem dX11_batch_1 : decode cX11_batch 1 = .ok (.invokestatic 85, 3) := by decide +kernel
theorem dX11_batch_4 : decode cX11_batch 4 = .ok (.ifCond .eq 13, 3) := by decide +kernel
theorem dX11_batch_7 : decode cX11_batch 7 = .ok (.iload_n 3, 1) := by decide +kernel
theorem dX11_batch_8 : decode cX11_batch 8 = .ok (.iconst 1, 1) := by decide +kernel
theorem dX11_batch_9 : decode cX11_batch 9 = .ok (.bipush 20, 2) := by decide +kernel
theorem dX11_batch_11 : decode cX11_batch 11 = .ok (.invokestatic 89, 3) := by decide +kernel
theorem dX11_batch_14 : decode cX11_batch 14 = .ok (.ifCond .ne 6, 3) := by decide +kernel
theorem dX11_batch_17 : decode cX11_batch 17 = .ok (.ldc 93, 2) := by decide +kernel
theorem dX11_batch_19 : decode cX11_batch 19 = .ok (.ireturn, 1) := by decide +kernel
theorem dX11_batch_20 : decode cX11_batch 20 = .ok (.aload_n 0, 1) := by decide +kernel
theorem dX11_batch_21 : decode cX11_batch 21 = .ok (.getfield 11, 3) := by decide +kernel
theorem dX11_batch_24 : decode cX11_batch 24 = .ok (.iload_n 1, 1) := by decide +kernel
theorem dX11_batch_25 : decode cX11_batch 25 = .ok (.aaload, 1) := by decide +kernel
theorem dX11_batch_26 : decode cX11_batch 26 = .ok (.astore 4, 2) := by decide +kernel
theorem dX11_batch_28 : decode cX11_batch 28 = .ok (.aload 4, 2) := by decide +kernel
theorem dX11_batch_30 : decode cX11_batch 30 = .ok (.getfield 105, 3) := by decide +kernel
theorem dX11_batch_33 : decode cX11_batch 33 = .ok (.ifCond .ne 9, 3) := by decide +kernel
theorem dX11_batch_36 : decode cX11_batch 36 = .ok (.aload_n 0, 1) := by decide +kernel
theorem dX11_batch_37 : decode cX11_batch 37 = .ok (.iconst 1, 1) := by decide +kernel
theorem dX11_batch_38 : decode cX11_batch 38 = .ok (.invokevirtual 94, 3) := by decide +kernel
theorem dX11_batch_41 : decode cX11_batch 41 = .ok (.ireturn, 1) := by decide +kernel
theorem dX11_batch_42 : decode cX11_batch 42 = .ok (.aload 4, 2) := by decide +kernel
theorem dX11_batch_44 : decode cX11_batch 44 = .ok (.iload_n 2, 1) := by decide +kernel
theorem dX11_batch_45 : decode cX11_batch 45 = .ok (.iload_n 3, 1) := by decide +kernel
theorem dX11_batch_46 : decode cX11_batch 46 = .ok (.bipush 6, 2) := by decide +kernel
theorem dX11_batch_48 : decode cX11_batch 48 = .ok (.imul, 1) := by decide +kernel
theorem dX11_batch_49 : decode cX11_batch 49 = .ok (.invokevirtual 109, 3) := by decide +kernel
theorem dX11_batch_52 : decode cX11_batch 52 = .ok (.ifCond .ne 9, 3) := by decide +kernel
theorem dX11_batch_55 : decode cX11_batch 55 = .ok (.aload_n 0, 1) := by decide +kernel
theorem dX11_batch_56 : decode cX11_batch 56 = .ok (.iconst 2, 1) := by decide +kernel
theorem dX11_batch_57 : decode cX11_batch 57 = .ok (.invokevirtual 94, 3) := by decide +kernel
theorem dX11_batch_60 : decode cX11_batch 60 = .ok (.ireturn, 1) := by decide +kernel
theorem dX11_batch_61 : decode cX11_batch 61 = .ok (.iconst 0, 1) := by decide +kernel
theorem dX11_batch_62 : decode cX11_batch 62 = .ok (.istore 5, 2) := by decide +kernel
theorem dX11_batch_64 : decode cX11_batch 64 = .ok (.iconst 0, 1) := by decide +kernel
theorem dX11_batch_65 : decode cX11_batch 65 = .ok (.istore 6, 2) := by decide +kernel
theorem dX11_batch_67 : decode cX11_batch 67 = .ok (.iload 6, 2) := by decide +kernel
theorem dX11_batch_69 : decode cX11_batch 69 = .ok (.iload_n 3, 1) := by decide +kernel
theorem dX11_batch_70 : decode cX11_batch 70 = .ok (.if_icmp .ge 31, 3) := by decide +kernel
theorem dX11_batch_73 : decode cX11_batch 73 = .ok (.aload_n 0, 1) := by decide +kernel
theorem dX11_batch_74 : decode cX11_batch 74 = .ok (.aload 4, 2) := by decide +kernel
theorem dX11_batch_76 : decode cX11_batch 76 = .ok (.getfield 120, 3) := by decide +kernel
theorem dX11_batch_79 : decode cX11_batch 79 = .ok (.iload_n 2, 1) := by decide +kernel
theorem dX11_batch_80 : decode cX11_batch 80 = .ok (.iload 6, 2) := by decide +kernel
theorem dX11_batch_82 : decode cX11_batch 82 = .ok (.bipush 6, 2) := by decide +kernel
theorem dX11_batch_84 : decode cX11_batch 84 = .ok (.imul, 1) := by decide +kernel
theorem dX11_batch_85 : decode cX11_batch 85 = .ok (.iadd, 1) := by decide +kernel
theorem dX11_batch_86 : decode cX11_batch 86 = .ok (.invokevirtual 137, 3) := by decide +kernel
theorem dX11_batch_89 : decode cX11_batch 89 = .ok (.ifCond .lt 6, 3) := by decide +kernel
theorem dX11_batch_92 : decode cX11_batch 92 = .ok (.iinc 5 1, 3) := by decide +kernel
theorem dX11_batch_95 : decode cX11_batch 95 = .ok (.iinc 6 1, 3) := by decide +kernel
theorem dX11_batch_98 : decode cX11_batch 98 = .ok (.goto (-31), 3) := by decide +kernel
theorem dX11_batch_101 : decode cX11_batch 101 = .ok (.aload_n 0, 1) := by decide +kernel
theorem dX11_batch_102 : decode cX11_batch 102 = .ok (.iload 5, 2) := by decide +kernel
theorem dX11_batch_104 : decode cX11_batch 104 = .ok (.invokevirtual 102, 3) := by decide +kernel
theorem dX11_batch_107 : decode cX11_batch 107 = .ok (.ireturn, 1) := by decide +kernel
theorem kd_X11_batch : aKd m_X11_batch 3 := ⟨wd_16_2, wd_1_2, ⟨by decide +kernel, by decide +kernel, by decide +kernel⟩⟩
set_option maxRecDepth 100000 in
set_option maxHeartbeats 4000000 in
theorem l_X11_batch_17  (cu : Nat) (su : Nat) (σ : aSt) (o : Int32 × aSt) (h : f_X11_batch_17  cu su σ = some o) : AW true m_X11_batch 17 [] [] σ cu su (some (.int o.1)) o.2 := by
  unfold f_X11_batch_17 at h
  replace h := e_grd h; obtain ⟨gcu, h⟩ := h
  refine w_ldc (v := (-1000001)) dX11_batch_17 wd_9_18 ?_
  obtain rfl := Option.some.inj h
  exact w_ireturn dX11_batch_19 rfl (by exact gcu.1) (by exact gcu.2)
set_option maxRecDepth 100000 in
set_option maxHeartbeats 4000000 in
theorem l_X11_batch_95 (rec67 : Nat → Nat → Int32 → Int32 → Nat → Int32 → Int32 → aSt → Option (Int32 × aSt)) (hrec67 : ∀ (cu : Nat) (su : Nat) (x2 : Int32) (x3 : Int32) (x4 : Nat) (x5 : Int32) (x6 : Int32) (σ : aSt) (o : Int32 × aSt), rec67 cu su x2 x3 x4 x5 x6 σ = some o → AW true m_X11_batch 67 [(0, va_rf (some (0))), (2, Value.int (x2)), (3, Value.int (x3)), (4, va_rf (some (x4))), (5, Value.int (x5)), (6, Value.int (x6))] [] σ cu su (some (.int o.1)) o.2) (cu : Nat) (su : Nat) (x2 : Int32) (x3 : Int32) (x4 : Nat) (x5 : Int32) (x6 : Int32) (σ : aSt) (o : Int32 × aSt) (h : f_X11_batch_95 rec67 cu su x2 x3 x4 x5 x6 σ = some o) : AW true m_X11_batch 95 [(0, va_rf (some (0))), (2, Value.int (x2)), (3, Value.int (x3)), (4, va_rf (some (x4))), (5, Value.int (x5)), (6, Value.int (x6))] [] σ cu su (some (.int o.1)) o.2 := by
  unfold f_X11_batch_95 at h
  replace h := e_grd h; obtain ⟨gcu, h⟩ := h
  refine w_iinc (q := 5) (v := x6 + 1) dX11_batch_95 rfl rfl (by decide) rfl ?_
  refine w_goto 67 dX11_batch_98 (by decide) ?_
  refine w_sub [1, 2, 3, 4, 5, 0] rfl ?_
  exact hrec67 _ _ _ _ _ _ _ _ _ h
set_option maxRecDepth 100000 in
set_option maxHeartbeats 4000000 in
theorem l_X11_batch_67_b (rec67 : Nat → Nat → Int32 → Int32 → Nat → Int32 → Int32 → aSt → Option (Int32 × aSt)) (hrec67 : ∀ (cu : Nat) (su : Nat) (x2 : Int32) (x3 : Int32) (x4 : Nat) (x5 : Int32) (x6 : Int32) (σ : aSt) (o : Int32 × aSt), rec67 cu su x2 x3 x4 x5 x6 σ = some o → AW true m_X11_batch 67 [(0, va_rf (some (0))), (2, Value.int (x2)), (3, Value.int (x3)), (4, va_rf (some (x4))), (5, Value.int (x5)), (6, Value.int (x6))] [] σ cu su (some (.int o.1)) o.2) (cu : Nat) (su : Nat) (x2 : Int32) (x3 : Int32) (x4 : Nat) (x5 : Int32) (x6 : Int32) (σ : aSt) (o : Int32 × aSt) (h : f_X11_batch_67_b rec67 cu su x2 x3 x4 x5 x6 σ = some o) : AW true m_X11_batch 67 [(0, va_rf (some (0))), (2, Value.int (x2)), (3, Value.int (x3)), (4, va_rf (some (x4))), (5, Value.int (x5)), (6, Value.int (x6))] [] σ cu su (some (.int o.1)) o.2 := by
  unfold f_X11_batch_67_b at h
  replace h := e_grd h; obtain ⟨gcu, h⟩ := h
  refine w_iload 5 dX11_batch_67 rfl ?_
  refine w_iload_n 2 dX11_batch_69 rfl rfl ?_
  refine w_icmp_ge 101 dX11_batch_70 (by decide) (fun c18 => ?_) (fun c18 => ?_)
  · replace h := e_t c18 h
    refine w_aload_n 0 ((some (0))) dX11_batch_101 rfl rfl ?_
    refine w_iload 4 dX11_batch_102 rfl ?_
    replace h := e_bind h; obtain ⟨q19, e20, h⟩ := h
    refine w_callV1 (M2 := m_X11_unhurt) (av := [.int (x5)]) (ci := 11) (c_X11_unhurt _ _ _ e20) dX11_batch_104 kd_X11_unhurt wd_10_11 wd_10_12 wd_10_13 rfl rfl ⟨rfl, Or.inr ⟨rfl, by decide⟩⟩ rfl ⟨Nat.le_of_ble_eq_true rfl, Nat.le_of_ble_eq_true rfl, by exact gcu.1, by exact gcu.2⟩ (Nat.le_of_ble_eq_true rfl) ?_
    obtain rfl := Option.some.inj h
    exact w_ireturn dX11_batch_107 rfl (by exact gcu.1) (by exact gcu.2)
  · replace h := e_f c18 h
    refine w_aload_n 0 ((some (0))) dX11_batch_73 rfl rfl ?_
    refine w_aload 3 ((some (x4))) dX11_batch_74 rfl ?_
    replace h := e_grd h; obtain ⟨g21, h⟩ := h
    refine w_get (v := va_rf (some ((x4 + 1)))) dX11_batch_76 fl_RX11_120 ⟨g21.1, Or.inl g21.2⟩ (aFv_k rfl) ?_
    refine w_iload_n 1 dX11_batch_79 rfl rfl ?_
    refine w_iload 5 dX11_batch_80 rfl ?_
    refine w_bipush (v := 6) dX11_batch_82 (by decide) ?_
    refine w_imul dX11_batch_84 ?_
    refine w_iadd dX11_batch_85 ?_
    replace h := e_grd h; obtain ⟨g24, h⟩ := h
    replace h := e_bind h; obtain ⟨q22, e23, h⟩ := h
    refine w_callV1 (M2 := m_X11_admitFrom) (av := [va_rf (some ((x4 + 1))), .int (x2 + (x6 * 6))]) (ci := 11) (c_X11_admitFrom _ _ _ _ e23) dX11_batch_86 kd_X11_admitFrom wd_16_3 wd_16_4 wd_16_5 rfl rfl ⟨rfl, Or.inr ⟨rfl, by decide⟩⟩ rfl ⟨Nat.le_of_ble_eq_true rfl, Nat.le_of_ble_eq_true rfl, g24.1, g24.2⟩ (Nat.le_of_ble_eq_true rfl) ?_
    refine w_if_lt 95 dX11_batch_89 (by decide) (fun c25 => ?_) (fun c25 => ?_)
    · replace h := e_t c25 h
      exact l_X11_batch_95 rec67 hrec67 _ _ _ _ _ _ _ _ _ h
    · replace h := e_f c25 h
      refine w_iinc (q := 4) (v := x5 + 1) dX11_batch_92 rfl rfl (by decide) rfl ?_
      refine w_sub [1, 2, 3, 4, 0, 5] rfl ?_
      exact l_X11_batch_95 rec67 hrec67 _ _ _ _ _ _ _ _ _ h
theorem l_X11_batch_67  : ∀ (n : Nat) (cu : Nat) (su : Nat) (x2 : Int32) (x3 : Int32) (x4 : Nat) (x5 : Int32) (x6 : Int32) (σ : aSt) (o : Int32 × aSt), f_X11_batch_67  n cu su x2 x3 x4 x5 x6 σ = some o → AW true m_X11_batch 67 [(0, va_rf (some (0))), (2, Value.int (x2)), (3, Value.int (x3)), (4, va_rf (some (x4))), (5, Value.int (x5)), (6, Value.int (x6))] [] σ cu su (some (.int o.1)) o.2
  | 0 => fun cu su x2 x3 x4 x5 x6 σ o h => by cases h
  | n + 1 => fun cu su x2 x3 x4 x5 x6 σ o h => l_X11_batch_67_b (f_X11_batch_67  n) (l_X11_batch_67  n) cu su x2 x3 x4 x5 x6 σ o h
set_option maxRecDepth 100000 in
set_option maxHeartbeats 4000000 in
theorem c_X11_batch (p1 : Int32) (p2 : Int32) (p3 : Int32) (σ : aSt) (o : Int32 × aSt) (h : f_X11_batch p1 p2 p3 σ = some o) : AM true m_X11_batch [va_rf (some (0)), .int (p1), .int (p2), .int (p3)] σ (some (.int o.1)) o.2 := by
  refine AM_of2 (lv := [(0, va_rf (some (0))), (1, Value.int (p1)), (2, Value.int (p2)), (3, Value.int (p3))]) (by decide +kernel) rfl (Nat.le_of_ble_eq_true rfl) ?_
  unfold f_X11_batch at h
  refine w_iload_n 1 dX11_batch_0 rfl rfl ?_
  replace h := e_bind h; obtain ⟨q1, e2, h⟩ := h
  refine w_callS1 (M2 := m_X11_isSheet) (av := [.int (p1)]) (c_X11_isSheet _ _ _ e2) dX11_batch_1 kd_X11_isSheet wd_9_19 wd_9_20 rfl rfl ⟨Nat.le_of_ble_eq_true rfl, Nat.le_of_ble_eq_true rfl, by exact Nat.zero_le _, by exact Nat.zero_le _⟩ (Nat.le_of_ble_eq_true rfl) ?_
  refine w_if_eq 17 dX11_batch_4 (by decide) (fun c3 => ?_) (fun c3 => ?_)
  · replace h := e_t c3 h
    refine w_sub [] rfl ?_
    exact l_X11_batch_17 _ _ _ _ h
  · replace h := e_f c3 h
    refine w_iload_n 3 dX11_batch_7 rfl rfl ?_
    refine w_iconst (v := 1) dX11_batch_8 (by decide) ?_
    refine w_bipush (v := 20) dX11_batch_9 (by decide) ?_
    replace h := e_bind h; obtain ⟨q4, e5, h⟩ := h
    refine w_callS1 (M2 := m_X11_within) (av := [.int (p3), .int (1), .int (20)]) (c_X11_within _ _ _ _ _ e5) dX11_batch_11 kd_X11_within wd_9_22 wd_9_23 rfl rfl ⟨Nat.le_of_ble_eq_true rfl, Nat.le_of_ble_eq_true rfl, by exact Nat.zero_le _, by exact Nat.zero_le _⟩ (Nat.le_of_ble_eq_true rfl) ?_
    refine w_if_ne 20 dX11_batch_14 (by decide) (fun c6 => ?_) (fun c6 => ?_)
    · replace h := e_f c6 h
      refine w_aload_n 0 ((some (0))) dX11_batch_20 rfl rfl ?_
      refine w_get (v := va_rf (some 1)) dX11_batch_21 fl_RX11_11 ⟨rfl, Or.inr ⟨rfl, by decide⟩⟩ (aFv_k rfl) ?_
      refine w_iload_n 1 dX11_batch_24 rfl rfl ?_
      replace h := e_grd h; obtain ⟨b7, h⟩ := h
      refine w_aaloadS dX11_batch_25 ⟨rfl, Or.inr ⟨rfl, by decide⟩⟩ b7 ?_
      refine w_astore dX11_batch_26 (by decide) rfl ?_
      refine w_aload 0 ((some ((41 + 2 * p1.toNatClampNeg)))) dX11_batch_28 rfl ?_
      replace h := e_grd h; obtain ⟨g8, h⟩ := h
      refine w_get dX11_batch_30 fl_RX11_105 ⟨g8.1, Or.inl g8.2⟩ (aFv_i rfl) ?_
      refine w_if_ne 42 dX11_batch_33 (by decide) (fun c9 => ?_) (fun c9 => ?_)
      · replace h := e_f c9 h
        refine w_aload 0 ((some ((41 + 2 * p1.toNatClampNeg)))) dX11_batch_42 rfl ?_
        refine w_iload_n 3 dX11_batch_44 rfl rfl ?_
        refine w_iload_n 4 dX11_batch_45 rfl rfl ?_
        refine w_bipush (v := 6) dX11_batch_46 (by decide) ?_
        refine w_imul dX11_batch_48 ?_
        replace h := e_grd h; obtain ⟨g12, h⟩ := h
        replace h := e_bind h; obtain ⟨q10, e11, h⟩ := h
        refine w_callV1 (M2 := m_X9_has) (av := [.int (p2), .int (p3 * 6)]) (ci := 9) (c_X9_has _ _ _ _ _ e11) dX11_batch_49 kd_X9_has wd_11_16 wd_11_17 wd_11_18 rfl rfl ⟨g12.1, Or.inl g12.2⟩ rfl ⟨Nat.le_of_ble_eq_true rfl, Nat.le_of_ble_eq_true rfl, by exact Nat.zero_le _, by exact Nat.zero_le _⟩ (Nat.le_of_ble_eq_true rfl) ?_
        refine w_if_ne 61 dX11_batch_52 (by decide) (fun c13 => ?_) (fun c13 => ?_)
        · replace h := e_f c13 h
          refine w_iconst (v := 0) dX11_batch_61 (by decide) ?_
          refine w_istore dX11_batch_62 (by decide) rfl ?_
          refine w_iconst (v := 0) dX11_batch_64 (by decide) ?_
          refine w_istore dX11_batch_65 (by decide) rfl ?_
          refine w_sub [3, 5, 6, 2, 1, 0] rfl ?_
          exact l_X11_batch_67 aN _ _ _ _ _ _ _ _ _ h
        · replace h := e_t c13 h
          refine w_aload_n 1 ((some (0))) dX11_batch_55 rfl rfl ?_
          refine w_iconst (v := 2) dX11_batch_56 (by decide) ?_
          replace h := e_bind h; obtain ⟨q14, e15, h⟩ := h
          refine w_callV1 (M2 := m_X11_found) (av := [.int (2)]) (ci := 11) (c_X11_found _ _ _ e15) dX11_batch_57 kd_X11_found wd_10_1 wd_10_2 wd_10_3 rfl rfl ⟨rfl, Or.inr ⟨rfl, by decide⟩⟩ rfl ⟨Nat.le_of_ble_eq_true rfl, Nat.le_of_ble_eq_true rfl, by exact Nat.zero_le _, by exact Nat.zero_le _⟩ (Nat.le_of_ble_eq_true rfl) ?_
          obtain rfl := Option.some.inj h
          exact w_ireturn dX11_batch_60 rfl (by exact Nat.zero_le _) (by exact Nat.zero_le _)
      · replace h := e_t c9 h
        refine w_aload_n 1 ((some (0))) dX11_batch_36 rfl rfl ?_
        refine w_iconst (v := 1) dX11_batch_37 (by decide) ?_
        replace h := e_bind h; obtain ⟨q16, e17, h⟩ := h
        refine w_callV1 (M2 := m_X11_found) (av := [.int (1)]) (ci := 11) (c_X11_found _ _ _ e17) dX11_batch_38 kd_X11_found wd_10_1 wd_10_2 wd_10_3 rfl rfl ⟨rfl, Or.inr ⟨rfl, by decide⟩⟩ rfl ⟨Nat.le_of_ble_eq_true rfl, Nat.le_of_ble_eq_true rfl, by exact Nat.zero_le _, by exact Nat.zero_le _⟩ (Nat.le_of_ble_eq_true rfl) ?_
        obtain rfl := Option.some.inj h
        exact w_ireturn dX11_batch_41 rfl (by exact Nat.zero_le _) (by exact Nat.zero_le _)
    · replace h := e_t c6 h
      refine w_sub [] rfl ?_
      exact l_X11_batch_17 _ _ _ _ h
theorem dX11_told_0 : decode cX11_told 0 = .ok (.aload_n 0, 1) := by decide +kernel
theorem dX11_told_1 : decode cX11_told 1 = .ok (.getfield 18, 3) := by decide +kernel
theorem dX11_told_4 : decode cX11_told 4 = .ok (.iload_n 1, 1) := by decide +kernel
theorem dX11_told_5 : decode cX11_told 5 = .ok (.invokevirtual 141, 3) := by decide +kernel
theorem dX11_told_8 : decode cX11_told 8 = .ok (.astore_n 3, 1) := by decide +kernel
theorem dX11_told_9 : decode cX11_told 9 = .ok (.aload_n 3, 1) := by decide +kernel
theorem dX11_told_10 : decode cX11_told 10 = .ok (.ifnonnull 6, 3) := by decide +kernel
theorem dX11_told_13 : decode cX11_told 13 = .ok (.ldc 93, 2) := by decide +kernel
theorem dX11_told_15 : decode cX11_told 15 = .ok (.ireturn, 1) := by decide +kernel
theorem dX11_told_16 : decode cX11_told 16 = .ok (.iload_n 2, 1) := by decide +kernel
theorem dX11_told_17 : decode cX11_told 17 = .ok (.tableswitch 78 0 6 #[43, 48, 53, 58, 63, 68, 73], 43) := by decide +kernel
theorem dX11_told_60 : decode cX11_told 60 = .ok (.aload_n 3, 1) := by decide +kernel
theorem dX11_told_61 : decode cX11_told 61 = .ok (.getfield 145, 3) := by decide +kernel
theorem dX11_told_64 : decode cX11_told 64 = .ok (.ireturn, 1) := by decide +kernel
theorem dX11_told_65 : decode cX11_told 65 = .ok (.aload_n 3, 1) := by decide +kernel
theorem dX11_told_66 : decode cX11_told 66 = .ok (.getfield 150, 3) := by decide +kernel
theorem dX11_told_69 : decode cX11_told 69 = .ok (.ireturn, 1) := by decide +kernel
theorem dX11_told_70 : decode cX11_told 70 = .ok (.aload_n 3, 1) := by decide +kernel
theorem dX11_told_71 : decode cX11_told 71 = .ok (.getfield 153, 3) := by decide +kernel
theorem dX11_told_74 : decode cX11_told 74 = .ok (.ireturn, 1) := by decide +kernel
theorem dX11_told_75 : decode cX11_told 75 = .ok (.aload_n 3, 1) := by decide +kernel
theorem dX11_told_76 : decode cX11_told 76 = .ok (.getfield 156, 3) := by decide +kernel
theorem dX11_told_79 : decode cX11_told 79 = .ok (.ireturn, 1) := by decide +kernel
theorem dX11_told_80 : decode cX11_told 80 = .ok (.aload_n 3, 1) := by decide +kernel
theorem dX11_told_81 : decode cX11_told 81 = .ok (.getfield 159, 3) := by decide +kernel
theorem dX11_told_84 : decode cX11_told 84 = .ok (.ireturn, 1) := by decide +kernel
theorem dX11_told_85 : decode cX11_told 85 = .ok (.aload_n 3, 1) := by decide +kernel
theorem dX11_told_86 : decode cX11_told 86 = .ok (.getfield 162, 3) := by decide +kernel
theorem dX11_told_89 : decode cX11_told 89 = .ok (.ireturn, 1) := by decide +kernel
theorem dX11_told_90 : decode cX11_told 90 = .ok (.aload_n 3, 1) := by decide +kernel
theorem dX11_told_91 : decode cX11_told 91 = .ok (.getfield 165, 3) := by decide +kernel
theorem dX11_told_94 : decode cX11_told 94 = .ok (.ireturn, 1) := by decide +kernel
theorem dX11_told_95 : decode cX11_told 95 = .ok (.ldc 93, 2) := by decide +kernel
theorem dX11_told_97 : decode cX11_told 97 = .ok (.ireturn, 1) := by decide +kernel
theorem kd_X11_told : aKd m_X11_told 2 := ⟨wd_16_15, wd_1_2, ⟨by decide +kernel, by decide +kernel, by decide +kernel⟩⟩
set_option maxRecDepth 100000 in
set_option maxHeartbeats 4000000 in
theorem c_X11_told (p1 : Int32) (p2 : Int32) (σ : aSt) (o : Int32 × aSt) (h : f_X11_told p1 p2 σ = some o) : AM true m_X11_told [va_rf (some (0)), .int (p1), .int (p2)] σ (some (.int o.1)) o.2 := by
  refine AM_of2 (lv := [(0, va_rf (some (0))), (1, Value.int (p1)), (2, Value.int (p2))]) (by decide +kernel) rfl (Nat.le_of_ble_eq_true rfl) ?_
  unfold f_X11_told at h
  refine w_aload_n 0 ((some (0))) dX11_told_0 rfl rfl ?_
  refine w_get (v := va_rf (some 2)) dX11_told_1 fl_RX11_18 ⟨rfl, Or.inr ⟨rfl, by decide⟩⟩ (aFv_k rfl) ?_
  refine w_iload_n 1 dX11_told_4 rfl rfl ?_
  replace h := e_bind h; obtain ⟨q1, e2, h⟩ := h
  refine w_callV1 (M2 := m_X3_find) (av := [.int (p1)]) (ci := 3) (c_X3_find _ _ _ e2) dX11_told_5 kd_X3_find wd_13_20 wd_13_21 wd_13_22 rfl rfl ⟨rfl, Or.inr ⟨rfl, by decide⟩⟩ rfl ⟨Nat.le_of_ble_eq_true rfl, Nat.le_of_ble_eq_true rfl, Nat.le_of_ble_eq_true rfl, Nat.le_of_ble_eq_true rfl⟩ (Nat.le_of_ble_eq_true rfl) ?_
  refine w_astore_n dX11_told_8 rfl (by decide) rfl ?_
  refine w_aload_n 0 (q1.1) dX11_told_9 rfl rfl ?_
  replace h := e_oC h; rcases h with ⟨r18, h⟩ | ⟨a3, r18, h⟩
  · rw [r18]
    refine w_ifnonnull0 dX11_told_10 ?_
    refine w_ldc (v := (-1000001)) dX11_told_13 wd_9_18 ?_
    obtain rfl := Option.some.inj h
    exact w_ireturn dX11_told_15 rfl (Nat.le_of_ble_eq_true rfl) (Nat.le_of_ble_eq_true rfl)
  · rw [r18]
    refine w_ifnonnull1 16 dX11_told_10 (by decide) ?_
    refine w_iload_n 3 dX11_told_16 rfl rfl ?_
    replace h := e_ite h; rcases h with ⟨c4, h⟩ | ⟨c4, h⟩
    · subst c4
      refine w_tabIn (off := 43) 60 dX11_told_17 (by decide) (by decide) (by decide +kernel) (by decide) ?_
      refine w_aload_n 0 ((some (a3))) dX11_told_60 rfl rfl ?_
      replace h := e_grd h; obtain ⟨g5, h⟩ := h
      refine w_get dX11_told_61 fl_RX11_145 ⟨g5.1, Or.inl g5.2⟩ (aFv_i rfl) ?_
      obtain rfl := Option.some.inj h
      exact w_ireturn dX11_told_64 rfl (Nat.le_of_ble_eq_true rfl) (Nat.le_of_ble_eq_true rfl)
    · replace h := e_ite h; rcases h with ⟨c6, h⟩ | ⟨c6, h⟩
      · subst c6
        refine w_tabIn (off := 48) 65 dX11_told_17 (by decide) (by decide) (by decide +kernel) (by decide) ?_
        refine w_aload_n 0 ((some (a3))) dX11_told_65 rfl rfl ?_
        replace h := e_grd h; obtain ⟨g7, h⟩ := h
        refine w_get dX11_told_66 fl_RX11_150 ⟨g7.1, Or.inl g7.2⟩ (aFv_i rfl) ?_
        obtain rfl := Option.some.inj h
        exact w_ireturn dX11_told_69 rfl (Nat.le_of_ble_eq_true rfl) (Nat.le_of_ble_eq_true rfl)
      · replace h := e_ite h; rcases h with ⟨c8, h⟩ | ⟨c8, h⟩
        · subst c8
          refine w_tabIn (off := 53) 70 dX11_told_17 (by decide) (by decide) (by decide +kernel) (by decide) ?_
          refine w_aload_n 0 ((some (a3))) dX11_told_70 rfl rfl ?_
          replace h := e_grd h; obtain ⟨g9, h⟩ := h
          refine w_get dX11_told_71 fl_RX11_153 ⟨g9.1, Or.inl g9.2⟩ (aFv_i rfl) ?_
          obtain rfl := Option.some.inj h
          exact w_ireturn dX11_told_74 rfl (Nat.le_of_ble_eq_true rfl) (Nat.le_of_ble_eq_true rfl)
        · replace h := e_ite h; rcases h with ⟨c10, h⟩ | ⟨c10, h⟩
          · subst c10
            refine w_tabIn (off := 58) 75 dX11_told_17 (by decide) (by decide) (by decide +kernel) (by decide) ?_
            refine w_aload_n 0 ((some (a3))) dX11_told_75 rfl rfl ?_
            replace h := e_grd h; obtain ⟨g11, h⟩ := h
            refine w_get dX11_told_76 fl_RX11_156 ⟨g11.1, Or.inl g11.2⟩ (aFv_i rfl) ?_
            obtain rfl := Option.some.inj h
            exact w_ireturn dX11_told_79 rfl (Nat.le_of_ble_eq_true rfl) (Nat.le_of_ble_eq_true rfl)
          · replace h := e_ite h; rcases h with ⟨c12, h⟩ | ⟨c12, h⟩
            · subst c12
              refine w_tabIn (off := 63) 80 dX11_told_17 (by decide) (by decide) (by decide +kernel) (by decide) ?_
              refine w_aload_n 0 ((some (a3))) dX11_told_80 rfl rfl ?_
              replace h := e_grd h; obtain ⟨g13, h⟩ := h
              refine w_get dX11_told_81 fl_RX11_159 ⟨g13.1, Or.inl g13.2⟩ (aFv_i rfl) ?_
              obtain rfl := Option.some.inj h
              exact w_ireturn dX11_told_84 rfl (Nat.le_of_ble_eq_true rfl) (Nat.le_of_ble_eq_true rfl)
            · replace h := e_ite h; rcases h with ⟨c14, h⟩ | ⟨c14, h⟩
              · subst c14
                refine w_tabIn (off := 68) 85 dX11_told_17 (by decide) (by decide) (by decide +kernel) (by decide) ?_
                refine w_aload_n 0 ((some (a3))) dX11_told_85 rfl rfl ?_
                replace h := e_grd h; obtain ⟨g15, h⟩ := h
                refine w_get dX11_told_86 fl_RX11_162 ⟨g15.1, Or.inl g15.2⟩ (aFv_i rfl) ?_
                obtain rfl := Option.some.inj h
                exact w_ireturn dX11_told_89 rfl (Nat.le_of_ble_eq_true rfl) (Nat.le_of_ble_eq_true rfl)
              · replace h := e_ite h; rcases h with ⟨c16, h⟩ | ⟨c16, h⟩
                · subst c16
                  refine w_tabIn (off := 73) 90 dX11_told_17 (by decide) (by decide) (by decide +kernel) (by decide) ?_
                  refine w_aload_n 0 ((some (a3))) dX11_told_90 rfl rfl ?_
                  replace h := e_grd h; obtain ⟨g17, h⟩ := h
                  refine w_get dX11_told_91 fl_RX11_165 ⟨g17.1, Or.inl g17.2⟩ (aFv_i rfl) ?_
                  obtain rfl := Option.some.inj h
                  exact w_ireturn dX11_told_94 rfl (Nat.le_of_ble_eq_true rfl) (Nat.le_of_ble_eq_true rfl)
                · refine w_tabOut 95 dX11_told_17 (by have zc4 := lv_neT (a := 0) c4 (by decide); have zc6 := lv_neT (a := 1) c6 (by decide); have zc8 := lv_neT (a := 2) c8 (by decide); have zc10 := lv_neT (a := 3) c10 (by decide); have zc12 := lv_neT (a := 4) c12 (by decide); have zc14 := lv_neT (a := 5) c14 (by decide); have zc16 := lv_neT (a := 6) c16 (by decide); omega) (by decide) ?_
                  refine w_ldc (v := (-1000001)) dX11_told_95 wd_9_18 ?_
                  obtain rfl := Option.some.inj h
                  exact w_ireturn dX11_told_97 rfl (Nat.le_of_ble_eq_true rfl) (Nat.le_of_ble_eq_true rfl)
theorem dX3_inOrder_0 : decode cX3_inOrder 0 = .ok (.iload_n 1, 1) := by decide +kernel
theorem dX3_inOrder_1 : decode cX3_inOrder 1 = .ok (.iconst 0, 1) := by decide +kernel
theorem dX3_inOrder_2 : decode cX3_inOrder 2 = .ok (.aload_n 0, 1) := by decide +kernel
theorem dX3_inOrder_3 : decode cX3_inOrder 3 = .ok (.getfield 20, 3) := by decide +kernel
theorem dX3_inOrder_6 : decode cX3_inOrder 6 = .ok (.iconst 1, 1) := by decide +kernel
theorem dX3_inOrder_7 : decode cX3_inOrder 7 = .ok (.isub, 1) := by decide +kernel
theorem dX3_inOrder_8 : decode cX3_inOrder 8 = .ok (.invokestatic 27, 3) := by decide +kernel
theorem dX3_inOrder_11 : decode cX3_inOrder 11 = .ok (.ifCond .eq 12, 3) := by decide +kernel
theorem dX3_inOrder_14 : decode cX3_inOrder 14 = .ok (.aload_n 0, 1) := by decide +kernel
theorem dX3_inOrder_15 : decode cX3_inOrder 15 = .ok (.getfield 17, 3) := by decide +kernel
theorem dX3_inOrder_18 : decode cX3_inOrder 18 = .ok (.iload_n 1, 1) := by decide +kernel
theorem dX3_inOrder_19 : decode cX3_inOrder 19 = .ok (.aaload, 1) := by decide +kernel
theorem dX3_inOrder_20 : decode cX3_inOrder 20 = .ok (.goto 4, 3) := by decide +kernel
theorem dX3_inOrder_23 : decode cX3_inOrder 23 = .ok (.aconst_null, 1) := by decide +kernel
theorem dX3_inOrder_24 : decode cX3_inOrder 24 = .ok (.areturn, 1) := by decide +kernel
theorem kd_X3_inOrder : aKd m_X3_inOrder 1 := ⟨wd_17_12, wd_1_17, ⟨by decide +kernel, by decide +kernel, by decide +kernel⟩⟩
set_option maxRecDepth 100000 in
set_option maxHeartbeats 4000000 in
theorem l_X3_inOrder_24  (t0 : Option Nat) (σ : aSt) (o : Option Nat × aSt) (h : f_X3_inOrder_24  t0 σ = some o) : AW true m_X3_inOrder 24 [] [va_rf (t0)] σ 0 0 (some (va_rf o.1)) o.2 := by
  unfold f_X3_inOrder_24 at h
  obtain rfl := Option.some.inj h
  exact w_areturn dX3_inOrder_24 rfl (Nat.le_of_ble_eq_true rfl) (Nat.le_of_ble_eq_true rfl)
set_option maxRecDepth 100000 in
set_option maxHeartbeats 4000000 in
theorem c_X3_inOrder (p1 : Int32) (σ : aSt) (o : Option Nat × aSt) (h : f_X3_inOrder p1 σ = some o) : AM true m_X3_inOrder [va_rf (some (2)), .int (p1)] σ (some (va_rf o.1)) o.2 := by
  refine AM_of2 (lv := [(0, va_rf (some (2))), (1, Value.int (p1))]) (by decide +kernel) rfl (Nat.le_of_ble_eq_true rfl) ?_
  unfold f_X3_inOrder at h
  refine w_iload_n 1 dX3_inOrder_0 rfl rfl ?_
  refine w_iconst (v := 0) dX3_inOrder_1 (by decide) ?_
  refine w_aload_n 0 ((some (2))) dX3_inOrder_2 rfl rfl ?_
  refine w_get dX3_inOrder_3 fl_RX3_20 ⟨rfl, Or.inr ⟨rfl, by decide⟩⟩ (aFv_i rfl) ?_
  refine w_iconst (v := 1) dX3_inOrder_6 (by decide) ?_
  refine w_isub dX3_inOrder_7 ?_
  replace h := e_bind h; obtain ⟨q1, e2, h⟩ := h
  refine w_callSN1 (M2 := m_X11_within) (av := [.int (p1), .int (0), .int ((gI σ 2 2) - 1)]) (host := RX11) (c_X11_within _ _ _ _ _ e2) dX3_inOrder_8 kd_X11_within (by decide +kernel) wd_9_23 rfl rfl ⟨Nat.le_of_ble_eq_true rfl, Nat.le_of_ble_eq_true rfl, Nat.le_of_ble_eq_true rfl, Nat.le_of_ble_eq_true rfl⟩ (Nat.le_of_ble_eq_true rfl) ?_
  refine w_if_eq 23 dX3_inOrder_11 (by decide) (fun c3 => ?_) (fun c3 => ?_)
  · replace h := e_t c3 h
    refine w_null dX3_inOrder_23 ?_
    refine w_sub [] rfl ?_
    exact l_X3_inOrder_24 _ _ _ h
  · replace h := e_f c3 h
    refine w_aload_n 0 ((some (2))) dX3_inOrder_14 rfl rfl ?_
    refine w_get (v := va_rf (some 4)) dX3_inOrder_15 fl_RX3_17 ⟨rfl, Or.inr ⟨rfl, by decide⟩⟩ (aFv_k rfl) ?_
    refine w_iload_n 1 dX3_inOrder_18 rfl rfl ?_
    replace h := e_grd h; obtain ⟨b4, h⟩ := h
    refine w_aaloadP dX3_inOrder_19 ⟨rfl, Or.inr ⟨rfl, by decide⟩⟩ b4 ?_
    refine w_goto 24 dX3_inOrder_20 (by decide) ?_
    refine w_sub [] rfl ?_
    exact l_X3_inOrder_24 _ _ _ h
theorem dX11_order_0 : decode cX11_order 0 = .ok (.aload_n 0, 1) := by decide +kernel
theorem dX11_order_1 : decode cX11_order 1 = .ok (.getfield 18, 3) := by decide +kernel
theorem dX11_order_4 : decode cX11_order 4 = .ok (.iload_n 1, 1) := by decide +kernel
theorem dX11_order_5 : decode cX11_order 5 = .ok (.invokevirtual 168, 3) := by decide +kernel
theorem dX11_order_8 : decode cX11_order 8 = .ok (.astore_n 2, 1) := by decide +kernel
theorem dX11_order_9 : decode cX11_order 9 = .ok (.aload_n 2, 1) := by decide +kernel
theorem dX11_order_10 : decode cX11_order 10 = .ok (.ifnonnull 8, 3) := by decide +kernel
theorem dX11_order_13 : decode cX11_order 13 = .ok (.ldc 171, 2) := by decide +kernel
theorem dX11_order_15 : decode cX11_order 15 = .ok (.goto 7, 3) := by decide +kernel
theorem dX11_order_18 : decode cX11_order 18 = .ok (.aload_n 2, 1) := by decide +kernel
theorem dX11_order_19 : decode cX11_order 19 = .ok (.getfield 172, 3) := by decide +kernel
theorem dX11_order_22 : decode cX11_order 22 = .ok (.ireturn, 1) := by decide +kernel
theorem kd_X11_order : aKd m_X11_order 1 := ⟨wd_17_6, wd_1_2, ⟨by decide +kernel, by decide +kernel, by decide +kernel⟩⟩
set_option maxRecDepth 100000 in
set_option maxHeartbeats 4000000 in
theorem l_X11_order_22  (t0 : Int32) (σ : aSt) (o : Int32 × aSt) (h : f_X11_order_22  t0 σ = some o) : AW true m_X11_order 22 [] [.int (t0)] σ 0 0 (some (.int o.1)) o.2 := by
  unfold f_X11_order_22 at h
  obtain rfl := Option.some.inj h
  exact w_ireturn dX11_order_22 rfl (Nat.le_of_ble_eq_true rfl) (Nat.le_of_ble_eq_true rfl)
set_option maxRecDepth 100000 in
set_option maxHeartbeats 4000000 in
theorem c_X11_order (p1 : Int32) (σ : aSt) (o : Int32 × aSt) (h : f_X11_order p1 σ = some o) : AM true m_X11_order [va_rf (some (0)), .int (p1)] σ (some (.int o.1)) o.2 := by
  refine AM_of2 (lv := [(0, va_rf (some (0))), (1, Value.int (p1))]) (by decide +kernel) rfl (Nat.le_of_ble_eq_true rfl) ?_
  unfold f_X11_order at h
  refine w_aload_n 0 ((some (0))) dX11_order_0 rfl rfl ?_
  refine w_get (v := va_rf (some 2)) dX11_order_1 fl_RX11_18 ⟨rfl, Or.inr ⟨rfl, by decide⟩⟩ (aFv_k rfl) ?_
  refine w_iload_n 1 dX11_order_4 rfl rfl ?_
  replace h := e_bind h; obtain ⟨q1, e2, h⟩ := h
  refine w_callV1 (M2 := m_X3_inOrder) (av := [.int (p1)]) (ci := 3) (c_X3_inOrder _ _ _ e2) dX11_order_5 kd_X3_inOrder wd_17_9 wd_17_10 wd_17_11 rfl rfl ⟨rfl, Or.inr ⟨rfl, by decide⟩⟩ rfl ⟨Nat.le_of_ble_eq_true rfl, Nat.le_of_ble_eq_true rfl, Nat.le_of_ble_eq_true rfl, Nat.le_of_ble_eq_true rfl⟩ (Nat.le_of_ble_eq_true rfl) ?_
  refine w_astore_n dX11_order_8 rfl (by decide) rfl ?_
  refine w_aload_n 0 (q1.1) dX11_order_9 rfl rfl ?_
  replace h := e_oC h; rcases h with ⟨r5, h⟩ | ⟨a3, r5, h⟩
  · rw [r5]
    refine w_ifnonnull0 dX11_order_10 ?_
    refine w_ldc (v := (-1000000)) dX11_order_13 wd_17_7 ?_
    refine w_goto 22 dX11_order_15 (by decide) ?_
    refine w_sub [] rfl ?_
    exact l_X11_order_22 _ _ _ h
  · rw [r5]
    refine w_ifnonnull1 18 dX11_order_10 (by decide) ?_
    refine w_aload_n 0 ((some (a3))) dX11_order_18 rfl rfl ?_
    replace h := e_grd h; obtain ⟨g4, h⟩ := h
    refine w_get dX11_order_19 fl_RX11_172 ⟨g4.1, Or.inl g4.2⟩ (aFv_i rfl) ?_
    refine w_sub [] rfl ?_
    exact l_X11_order_22 _ _ _ h
