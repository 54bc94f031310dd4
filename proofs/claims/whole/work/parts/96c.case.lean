set_option maxHeartbeats 1000000 in
theorem law_case_22 {i : Int32} {σ : aSt} {cu su b L : Nat} {xs : Nat → Int32} (hI : Inv σ) (hc : cu + 20 ≤ 600000) (hs : su + 160 ≤ 7302250) (hin : ∀ k, k ≤ 6 → vp_in (i + nI k) L) (kk : ∀ σ2, Inv σ2 → LW 1306 i [] σ2 (cu + 20) (su + 160) b L xs) : LW 969 i [] σ cu su b L xs := by
  obtain ⟨r, σ1, σ2, h1, h2, hI2⟩ := op_bestSetting hI (xs (i + nI 1).toNatClampNeg)
  refine l_x dL_969 ?_
  refine l_arg (kv := nI 1) aL_970 rfl (hin 1 (by decide)) ?_
  refine l_callV (av := [.int (xs (i + nI 1).toNatClampNeg)]) (st := []) (bb := 0) (ci := 11) (c_X11_bestSetting (xs (i + nI 1).toNatClampNeg) σ (r, σ1) h1) dL_975 kd_X11_bestSetting wd_42_2 wd_42_3 wd_42_4 rfl rfl (by decide) rfl ⟨Nat.le_of_ble_eq_true rfl, Nat.le_of_ble_eq_true rfl, show cu + 0 ≤ 600000 from by omega, show su + 0 ≤ 7302250 from by omega⟩ (Nat.le_of_ble_eq_true rfl) ?_
  refine l_m dL_978 ?_
  refine l_arg (kv := nI 1) aL_979 rfl (hin 1 (by decide)) ?_
  refine l_callV (av := [.int (xs (i + nI 1).toNatClampNeg)]) (st := [.long r]) (bb := 57) (ci := 12) (c_X12_bestSetting (xs (i + nI 1).toNatClampNeg) σ1 (r, σ2) h2) dL_984 kd_X12_bestSetting wd_42_23 wd_43_0 wd_43_1 rfl rfl (by decide) rfl ⟨Nat.le_of_ble_eq_true rfl, Nat.le_of_ble_eq_true rfl, show cu + 0 + 0 ≤ 600000 from by omega, show su + 0 + 0 ≤ 7302250 from by omega⟩ (Nat.le_of_ble_eq_true rfl) ?_
  refine l_leq 1306 dL_987 dL_988 rfl ?_
  exact l_widen (show cu + 0 + 0 ≤ cu + 20 from by omega) (show su + 0 + 0 ≤ su + 160 from by omega) (kk σ2 hI2)
set_option maxHeartbeats 1000000 in
theorem law_case_23 {i : Int32} {σ : aSt} {cu su b L : Nat} {xs : Nat → Int32} (hI : Inv σ) (hc : cu + 20 ≤ 600000) (hs : su + 160 ≤ 7302250) (hin : ∀ k, k ≤ 6 → vp_in (i + nI k) L) (kk : ∀ σ2, Inv σ2 → LW 1306 i [] σ2 (cu + 20) (su + 160) b L xs) : LW 993 i [] σ cu su b L xs := by
  obtain ⟨r, σ1, σ2, h1, h2, hI2⟩ := op_learnt hI (xs (i + nI 1).toNatClampNeg)
  refine l_x dL_993 ?_
  refine l_arg (kv := nI 1) aL_994 rfl (hin 1 (by decide)) ?_
  refine l_callV (av := [.int (xs (i + nI 1).toNatClampNeg)]) (st := []) (bb := 0) (ci := 11) (c_X11_learnt (xs (i + nI 1).toNatClampNeg) σ (r, σ1) h1) dL_999 kd_X11_learnt wd_43_3 wd_43_4 wd_43_5 rfl rfl (by decide) rfl ⟨Nat.le_of_ble_eq_true rfl, Nat.le_of_ble_eq_true rfl, show cu + 0 ≤ 600000 from by omega, show su + 0 ≤ 7302250 from by omega⟩ (Nat.le_of_ble_eq_true rfl) ?_
  refine l_m dL_1002 ?_
  refine l_arg (kv := nI 1) aL_1003 rfl (hin 1 (by decide)) ?_
  refine l_callV (av := [.int (xs (i + nI 1).toNatClampNeg)]) (st := [.long r]) (bb := 57) (ci := 12) (c_X12_learnt (xs (i + nI 1).toNatClampNeg) σ1 (r, σ2) h2) dL_1008 kd_X12_learnt wd_44_6 wd_44_7 wd_44_8 rfl rfl (by decide) rfl ⟨Nat.le_of_ble_eq_true rfl, Nat.le_of_ble_eq_true rfl, show cu + 0 + 0 ≤ 600000 from by omega, show su + 0 + 0 ≤ 7302250 from by omega⟩ (Nat.le_of_ble_eq_true rfl) ?_
  refine l_leq 1306 dL_1011 dL_1012 rfl ?_
  exact l_widen (show cu + 0 + 0 ≤ cu + 20 from by omega) (show su + 0 + 0 ≤ su + 160 from by omega) (kk σ2 hI2)
set_option maxHeartbeats 1000000 in
theorem law_case_24 {i : Int32} {σ : aSt} {cu su b L : Nat} {xs : Nat → Int32} (hI : Inv σ) (hc : cu + 20 ≤ 600000) (hs : su + 160 ≤ 7302250) (hin : ∀ k, k ≤ 6 → vp_in (i + nI k) L) (kk : ∀ σ2, Inv σ2 → LW 1306 i [] σ2 (cu + 20) (su + 160) b L xs) : LW 1017 i [] σ cu su b L xs := by
  obtain ⟨r, σ1, σ2, h1, h2, hI2⟩ := op_costs hI (xs (i + nI 1).toNatClampNeg) (xs (i + nI 2).toNatClampNeg)
  refine l_x dL_1017 ?_
  refine l_arg (kv := nI 1) aL_1018 rfl (hin 1 (by decide)) ?_
  refine l_arg (kv := nI 2) aL_1023 rfl (hin 2 (by decide)) ?_
  refine l_callV (av := [.int (xs (i + nI 1).toNatClampNeg), .int (xs (i + nI 2).toNatClampNeg)]) (st := []) (bb := 0) (ci := 11) (c_X11_costs (xs (i + nI 1).toNatClampNeg) (xs (i + nI 2).toNatClampNeg) σ (r, σ1) h1) dL_1028 kd_X11_costs wd_44_18 wd_44_19 wd_44_20 rfl rfl (by decide) rfl ⟨Nat.le_of_ble_eq_true rfl, Nat.le_of_ble_eq_true rfl, show cu + 0 ≤ 600000 from by omega, show su + 0 ≤ 7302250 from by omega⟩ (Nat.le_of_ble_eq_true rfl) ?_
  refine l_m dL_1031 ?_
  refine l_arg (kv := nI 1) aL_1032 rfl (hin 1 (by decide)) ?_
  refine l_arg (kv := nI 2) aL_1037 rfl (hin 2 (by decide)) ?_
  refine l_callV (av := [.int (xs (i + nI 1).toNatClampNeg), .int (xs (i + nI 2).toNatClampNeg)]) (st := [.long r]) (bb := 57) (ci := 12) (c_X12_costs (xs (i + nI 1).toNatClampNeg) (xs (i + nI 2).toNatClampNeg) σ1 (r, σ2) h2) dL_1042 kd_X12_costs wd_44_22 wd_44_23 wd_45_0 rfl rfl (by decide) rfl ⟨Nat.le_of_ble_eq_true rfl, Nat.le_of_ble_eq_true rfl, show cu + 0 + 0 ≤ 600000 from by omega, show su + 0 + 0 ≤ 7302250 from by omega⟩ (Nat.le_of_ble_eq_true rfl) ?_
  refine l_leq 1306 dL_1045 dL_1046 rfl ?_
  exact l_widen (show cu + 0 + 0 ≤ cu + 20 from by omega) (show su + 0 + 0 ≤ su + 160 from by omega) (kk σ2 hI2)
set_option maxHeartbeats 1000000 in
theorem law_case_25 {i : Int32} {σ : aSt} {cu su b L : Nat} {xs : Nat → Int32} (hI : Inv σ) (hc : cu + 20 ≤ 600000) (hs : su + 160 ≤ 7302250) (hin : ∀ k, k ≤ 6 → vp_in (i + nI k) L) (kk : ∀ σ2, Inv σ2 → LW 1306 i [] σ2 (cu + 20) (su + 160) b L xs) : LW 1051 i [] σ cu su b L xs := by
  obtain ⟨r, σ1, σ2, h1, h2, hI2⟩ := op_drift hI (xs (i + nI 1).toNatClampNeg) (xs (i + nI 2).toNatClampNeg) (xs (i + nI 3).toNatClampNeg) (xs (i + nI 4).toNatClampNeg) (xs (i + nI 5).toNatClampNeg)
  refine l_x dL_1051 ?_
  refine l_arg (kv := nI 1) aL_1052 rfl (hin 1 (by decide)) ?_
  refine l_arg (kv := nI 2) aL_1057 rfl (hin 2 (by decide)) ?_
  refine l_arg (kv := nI 3) aL_1062 rfl (hin 3 (by decide)) ?_
  refine l_arg (kv := nI 4) aL_1067 rfl (hin 4 (by decide)) ?_
  refine l_arg (kv := nI 5) aL_1072 rfl (hin 5 (by decide)) ?_
  refine l_callV (av := [.int (xs (i + nI 1).toNatClampNeg), .int (xs (i + nI 2).toNatClampNeg), .int (xs (i + nI 3).toNatClampNeg), .int (xs (i + nI 4).toNatClampNeg), .int (xs (i + nI 5).toNatClampNeg)]) (st := []) (bb := 0) (ci := 11) (c_X11_drift (xs (i + nI 1).toNatClampNeg) (xs (i + nI 2).toNatClampNeg) (xs (i + nI 3).toNatClampNeg) (xs (i + nI 4).toNatClampNeg) (xs (i + nI 5).toNatClampNeg) σ (r, σ1) h1) dL_1077 kd_X11_drift wd_45_2 wd_45_3 wd_45_4 rfl rfl (by decide) rfl ⟨Nat.le_of_ble_eq_true rfl, Nat.le_of_ble_eq_true rfl, show cu + 0 ≤ 600000 from by omega, show su + 0 ≤ 7302250 from by omega⟩ (Nat.le_of_ble_eq_true rfl) ?_
  refine l_m dL_1080 ?_
  refine l_arg (kv := nI 1) aL_1081 rfl (hin 1 (by decide)) ?_
  refine l_arg (kv := nI 2) aL_1086 rfl (hin 2 (by decide)) ?_
  refine l_arg (kv := nI 3) aL_1091 rfl (hin 3 (by decide)) ?_
  refine l_arg (kv := nI 4) aL_1096 rfl (hin 4 (by decide)) ?_
  refine l_arg (kv := nI 5) aL_1101 rfl (hin 5 (by decide)) ?_
  refine l_callV (av := [.int (xs (i + nI 1).toNatClampNeg), .int (xs (i + nI 2).toNatClampNeg), .int (xs (i + nI 3).toNatClampNeg), .int (xs (i + nI 4).toNatClampNeg), .int (xs (i + nI 5).toNatClampNeg)]) (st := [.long r]) (bb := 57) (ci := 12) (c_X12_drift (xs (i + nI 1).toNatClampNeg) (xs (i + nI 2).toNatClampNeg) (xs (i + nI 3).toNatClampNeg) (xs (i + nI 4).toNatClampNeg) (xs (i + nI 5).toNatClampNeg) σ1 (r, σ2) h2) dL_1106 kd_X12_drift wd_46_15 wd_46_16 wd_46_17 rfl rfl (by decide) rfl ⟨Nat.le_of_ble_eq_true rfl, Nat.le_of_ble_eq_true rfl, show cu + 0 + 0 ≤ 600000 from by omega, show su + 0 + 0 ≤ 7302250 from by omega⟩ (Nat.le_of_ble_eq_true rfl) ?_
  refine l_leq 1306 dL_1109 dL_1110 rfl ?_
  exact l_widen (show cu + 0 + 0 ≤ cu + 20 from by omega) (show su + 0 + 0 ≤ su + 160 from by omega) (kk σ2 hI2)
set_option maxHeartbeats 1000000 in
theorem law_case_26 {i : Int32} {σ : aSt} {cu su b L : Nat} {xs : Nat → Int32} (hI : Inv σ) (hc : cu + 20 ≤ 600000) (hs : su + 160 ≤ 7302250) (hin : ∀ k, k ≤ 6 → vp_in (i + nI k) L) (kk : ∀ σ2, Inv σ2 → LW 1306 i [] σ2 (cu + 20) (su + 160) b L xs) : LW 1115 i [] σ cu su b L xs := by
  obtain ⟨r, σ1, σ2, h1, h2, hI2⟩ := op_counted hI (xs (i + nI 1).toNatClampNeg) (xs (i + nI 2).toNatClampNeg) (xs (i + nI 3).toNatClampNeg)
  refine l_x dL_1115 ?_
  refine l_arg (kv := nI 1) aL_1116 rfl (hin 1 (by decide)) ?_
  refine l_arg (kv := nI 2) aL_1121 rfl (hin 2 (by decide)) ?_
  refine l_arg (kv := nI 3) aL_1126 rfl (hin 3 (by decide)) ?_
  refine l_callV (av := [.int (xs (i + nI 1).toNatClampNeg), .int (xs (i + nI 2).toNatClampNeg), .int (xs (i + nI 3).toNatClampNeg)]) (st := []) (bb := 0) (ci := 11) (c_X11_counted (xs (i + nI 1).toNatClampNeg) (xs (i + nI 2).toNatClampNeg) (xs (i + nI 3).toNatClampNeg) σ (r, σ1) h1) dL_1131 kd_X11_counted wd_47_2 wd_47_3 wd_47_4 rfl rfl (by decide) rfl ⟨Nat.le_of_ble_eq_true rfl, Nat.le_of_ble_eq_true rfl, show cu + 0 ≤ 600000 from by omega, show su + 0 ≤ 7302250 from by omega⟩ (Nat.le_of_ble_eq_true rfl) ?_
  refine l_m dL_1134 ?_
  refine l_arg (kv := nI 1) aL_1135 rfl (hin 1 (by decide)) ?_
  refine l_arg (kv := nI 2) aL_1140 rfl (hin 2 (by decide)) ?_
  refine l_arg (kv := nI 3) aL_1145 rfl (hin 3 (by decide)) ?_
  refine l_callV (av := [.int (xs (i + nI 1).toNatClampNeg), .int (xs (i + nI 2).toNatClampNeg), .int (xs (i + nI 3).toNatClampNeg)]) (st := [.int r]) (bb := 57) (ci := 12) (c_X12_counted (xs (i + nI 1).toNatClampNeg) (xs (i + nI 2).toNatClampNeg) (xs (i + nI 3).toNatClampNeg) σ1 (r, σ2) h2) dL_1150 kd_X12_counted wd_47_12 wd_47_13 wd_47_14 rfl rfl (by decide) rfl ⟨Nat.le_of_ble_eq_true rfl, Nat.le_of_ble_eq_true rfl, show cu + 0 + 0 ≤ 600000 from by omega, show su + 0 + 0 ≤ 7302250 from by omega⟩ (Nat.le_of_ble_eq_true rfl) ?_
  refine l_eq 1306 dL_1153 rfl ?_
  exact l_widen (show cu + 0 + 0 ≤ cu + 20 from by omega) (show su + 0 + 0 ≤ su + 160 from by omega) (kk σ2 hI2)
set_option maxHeartbeats 1000000 in
theorem law_case_27 {i : Int32} {σ : aSt} {cu su b L : Nat} {xs : Nat → Int32} (hI : Inv σ) (hc : cu + 20 ≤ 600000) (hs : su + 160 ≤ 7302250) (hin : ∀ k, k ≤ 6 → vp_in (i + nI k) L) (kk : ∀ σ2, Inv σ2 → LW 1306 i [] σ2 (cu + 20) (su + 160) b L xs) : LW 1158 i [] σ cu su b L xs := by
  obtain ⟨r, σ1, σ2, h1, h2, hI2⟩ := op_kind hI (xs (i + nI 1).toNatClampNeg)
  refine l_x dL_1158 ?_
  refine l_arg (kv := nI 1) aL_1159 rfl (hin 1 (by decide)) ?_
  refine l_callV (av := [.int (xs (i + nI 1).toNatClampNeg)]) (st := []) (bb := 0) (ci := 11) (c_X11_kind (xs (i + nI 1).toNatClampNeg) σ (r, σ1) h1) dL_1164 kd_X11_kind wd_47_16 wd_47_17 wd_47_18 rfl rfl (by decide) rfl ⟨Nat.le_of_ble_eq_true rfl, Nat.le_of_ble_eq_true rfl, show cu + 0 ≤ 600000 from by omega, show su + 0 ≤ 7302250 from by omega⟩ (Nat.le_of_ble_eq_true rfl) ?_
  refine l_m dL_1167 ?_
  refine l_arg (kv := nI 1) aL_1168 rfl (hin 1 (by decide)) ?_
  refine l_callV (av := [.int (xs (i + nI 1).toNatClampNeg)]) (st := [.int r]) (bb := 57) (ci := 12) (c_X12_kind (xs (i + nI 1).toNatClampNeg) σ1 (r, σ2) h2) dL_1173 kd_X12_kind wd_48_0 wd_48_1 wd_48_2 rfl rfl (by decide) rfl ⟨Nat.le_of_ble_eq_true rfl, Nat.le_of_ble_eq_true rfl, show cu + 0 + 0 ≤ 600000 from by omega, show su + 0 + 0 ≤ 7302250 from by omega⟩ (Nat.le_of_ble_eq_true rfl) ?_
  refine l_eq 1306 dL_1176 rfl ?_
  exact l_widen (show cu + 0 + 0 ≤ cu + 20 from by omega) (show su + 0 + 0 ≤ su + 160 from by omega) (kk σ2 hI2)
set_option maxHeartbeats 1000000 in
theorem law_case_28 {i : Int32} {σ : aSt} {cu su b L : Nat} {xs : Nat → Int32} (hI : Inv σ) (hc : cu + 20 ≤ 600000) (hs : su + 160 ≤ 7302250) (hin : ∀ k, k ≤ 6 → vp_in (i + nI k) L) (kk : ∀ σ2, Inv σ2 → LW 1306 i [] σ2 (cu + 20) (su + 160) b L xs) : LW 1181 i [] σ cu su b L xs := by
  obtain ⟨r, σ1, σ2, h1, h2, hI2⟩ := op_as hI (xs (i + nI 1).toNatClampNeg) (xs (i + nI 2).toNatClampNeg)
  refine l_x dL_1181 ?_
  refine l_arg (kv := nI 1) aL_1182 rfl (hin 1 (by decide)) ?_
  refine l_arg (kv := nI 2) aL_1187 rfl (hin 2 (by decide)) ?_
  refine l_callV (av := [.int (xs (i + nI 1).toNatClampNeg), .int (xs (i + nI 2).toNatClampNeg)]) (st := []) (bb := 0) (ci := 11) (c_X11_as (xs (i + nI 1).toNatClampNeg) (xs (i + nI 2).toNatClampNeg) σ (r, σ1) h1) dL_1192 kd_X11_as wd_48_8 wd_48_9 wd_48_10 rfl rfl (by decide) rfl ⟨Nat.le_of_ble_eq_true rfl, Nat.le_of_ble_eq_true rfl, show cu + 0 ≤ 600000 from by omega, show su + 0 ≤ 7302250 from by omega⟩ (Nat.le_of_ble_eq_true rfl) ?_
  refine l_m dL_1195 ?_
  refine l_arg (kv := nI 1) aL_1196 rfl (hin 1 (by decide)) ?_
  refine l_arg (kv := nI 2) aL_1201 rfl (hin 2 (by decide)) ?_
  refine l_callV (av := [.int (xs (i + nI 1).toNatClampNeg), .int (xs (i + nI 2).toNatClampNeg)]) (st := [.int r]) (bb := 57) (ci := 12) (c_X12_as (xs (i + nI 1).toNatClampNeg) (xs (i + nI 2).toNatClampNeg) σ1 (r, σ2) h2) dL_1206 kd_X12_as wd_48_12 wd_48_13 wd_48_14 rfl rfl (by decide) rfl ⟨Nat.le_of_ble_eq_true rfl, Nat.le_of_ble_eq_true rfl, show cu + 0 + 0 ≤ 600000 from by omega, show su + 0 + 0 ≤ 7302250 from by omega⟩ (Nat.le_of_ble_eq_true rfl) ?_
  refine l_eq 1306 dL_1209 rfl ?_
  exact l_widen (show cu + 0 + 0 ≤ cu + 20 from by omega) (show su + 0 + 0 ≤ su + 160 from by omega) (kk σ2 hI2)
set_option maxHeartbeats 1000000 in
theorem law_case_29 {i : Int32} {σ : aSt} {cu su b L : Nat} {xs : Nat → Int32} (hI : Inv σ) (hc : cu + 20 ≤ 600000) (hs : su + 160 ≤ 7302250) (hin : ∀ k, k ≤ 6 → vp_in (i + nI k) L) (kk : ∀ σ2, Inv σ2 → LW 1306 i [] σ2 (cu + 20) (su + 160) b L xs) : LW 1214 i [] σ cu su b L xs := by
  obtain ⟨r, σ1, σ2, h1, h2, hI2⟩ := op_ask hI (xs (i + nI 1).toNatClampNeg) (xs (i + nI 2).toNatClampNeg)
  refine l_x dL_1214 ?_
  refine l_arg (kv := nI 1) aL_1215 rfl (hin 1 (by decide)) ?_
  refine l_arg (kv := nI 2) aL_1220 rfl (hin 2 (by decide)) ?_
  refine l_callV (av := [.int (xs (i + nI 1).toNatClampNeg), .int (xs (i + nI 2).toNatClampNeg)]) (st := []) (bb := 0) (ci := 11) (c_X11_ask (xs (i + nI 1).toNatClampNeg) (xs (i + nI 2).toNatClampNeg) σ (r, σ1) h1) dL_1225 kd_X11_ask wd_48_19 wd_48_20 wd_48_21 rfl rfl (by decide) rfl ⟨Nat.le_of_ble_eq_true rfl, Nat.le_of_ble_eq_true rfl, show cu + 0 ≤ 600000 from by omega, show su + 0 ≤ 7302250 from by omega⟩ (Nat.le_of_ble_eq_true rfl) ?_
  refine l_m dL_1228 ?_
  refine l_arg (kv := nI 1) aL_1229 rfl (hin 1 (by decide)) ?_
  refine l_arg (kv := nI 2) aL_1234 rfl (hin 2 (by decide)) ?_
  refine l_callV (av := [.int (xs (i + nI 1).toNatClampNeg), .int (xs (i + nI 2).toNatClampNeg)]) (st := [.int r]) (bb := 57) (ci := 12) (c_X12_ask (xs (i + nI 1).toNatClampNeg) (xs (i + nI 2).toNatClampNeg) σ1 (r, σ2) h2) dL_1239 kd_X12_ask wd_49_10 wd_49_11 wd_49_12 rfl rfl (by decide) rfl ⟨Nat.le_of_ble_eq_true rfl, Nat.le_of_ble_eq_true rfl, show cu + 0 + 0 ≤ 600000 from by omega, show su + 0 + 0 ≤ 7302250 from by omega⟩ (Nat.le_of_ble_eq_true rfl) ?_
  refine l_eq 1306 dL_1242 rfl ?_
  exact l_widen (show cu + 0 + 0 ≤ cu + 20 from by omega) (show su + 0 + 0 ≤ su + 160 from by omega) (kk σ2 hI2)
set_option maxHeartbeats 1000000 in
theorem law_case_30 {i : Int32} {σ : aSt} {cu su b L : Nat} {xs : Nat → Int32} (hI : Inv σ) (hc : cu + 20 ≤ 600000) (hs : su + 160 ≤ 7302250) (hin : ∀ k, k ≤ 6 → vp_in (i + nI k) L) (kk : ∀ σ2, Inv σ2 → LW 1306 i [] σ2 (cu + 20) (su + 160) b L xs) : LW 1247 i [] σ cu su b L xs := by
  obtain ⟨r, σ1, σ2, h1, h2, hI2⟩ := op_trace hI (xs (i + nI 1).toNatClampNeg)
  refine l_x dL_1247 ?_
  refine l_arg (kv := nI 1) aL_1248 rfl (hin 1 (by decide)) ?_
  refine l_callV (av := [.int (xs (i + nI 1).toNatClampNeg)]) (st := []) (bb := 0) (ci := 11) (c_X11_trace (xs (i + nI 1).toNatClampNeg) σ (r, σ1) h1) dL_1253 kd_X11_trace wd_50_7 wd_50_8 wd_50_9 rfl rfl (by decide) rfl ⟨Nat.le_of_ble_eq_true rfl, Nat.le_of_ble_eq_true rfl, show cu + 0 ≤ 600000 from by omega, show su + 0 ≤ 7302250 from by omega⟩ (Nat.le_of_ble_eq_true rfl) ?_
  refine l_m dL_1256 ?_
  refine l_arg (kv := nI 1) aL_1257 rfl (hin 1 (by decide)) ?_
  refine l_callV (av := [.int (xs (i + nI 1).toNatClampNeg)]) (st := [.int r]) (bb := 57) (ci := 12) (c_X12_trace (xs (i + nI 1).toNatClampNeg) σ1 (r, σ2) h2) dL_1262 kd_X12_trace wd_50_13 wd_50_14 wd_50_15 rfl rfl (by decide) rfl ⟨Nat.le_of_ble_eq_true rfl, Nat.le_of_ble_eq_true rfl, show cu + 0 + 0 ≤ 600000 from by omega, show su + 0 + 0 ≤ 7302250 from by omega⟩ (Nat.le_of_ble_eq_true rfl) ?_
  refine l_eq 1306 dL_1265 rfl ?_
  exact l_widen (show cu + 0 + 0 ≤ cu + 20 from by omega) (show su + 0 + 0 ≤ su + 160 from by omega) (kk σ2 hI2)
set_option maxHeartbeats 1000000 in
theorem law_case_31 {i : Int32} {σ : aSt} {cu su b L : Nat} {xs : Nat → Int32} (hI : Inv σ) (hc : cu + 20 ≤ 600000) (hs : su + 160 ≤ 7302250) (hin : ∀ k, k ≤ 6 → vp_in (i + nI k) L) (kk : ∀ σ2, Inv σ2 → LW 1306 i [] σ2 (cu + 20) (su + 160) b L xs) : LW 1270 i [] σ cu su b L xs := by
  obtain ⟨r, σ1, σ2, h1, h2, hI2⟩ := op_count hI (xs (i + nI 1).toNatClampNeg)
  refine l_x dL_1270 ?_
  refine l_arg (kv := nI 1) aL_1271 rfl (hin 1 (by decide)) ?_
  refine l_callV (av := [.int (xs (i + nI 1).toNatClampNeg)]) (st := []) (bb := 0) (ci := 11) (c_X11_count (xs (i + nI 1).toNatClampNeg) σ (r, σ1) h1) dL_1276 kd_X11_count wd_50_17 wd_50_18 wd_50_19 rfl rfl (by decide) rfl ⟨Nat.le_of_ble_eq_true rfl, Nat.le_of_ble_eq_true rfl, show cu + 0 ≤ 600000 from by omega, show su + 0 ≤ 7302250 from by omega⟩ (Nat.le_of_ble_eq_true rfl) ?_
  refine l_m dL_1279 ?_
  refine l_arg (kv := nI 1) aL_1280 rfl (hin 1 (by decide)) ?_
  refine l_callV (av := [.int (xs (i + nI 1).toNatClampNeg)]) (st := [.int r]) (bb := 57) (ci := 12) (c_X12_count (xs (i + nI 1).toNatClampNeg) σ1 (r, σ2) h2) dL_1285 kd_X12_count wd_51_8 wd_51_9 wd_51_10 rfl rfl (by decide) rfl ⟨Nat.le_of_ble_eq_true rfl, Nat.le_of_ble_eq_true rfl, show cu + 0 + 0 ≤ 600000 from by omega, show su + 0 + 0 ≤ 7302250 from by omega⟩ (Nat.le_of_ble_eq_true rfl) ?_
  refine l_eq 1306 dL_1288 rfl ?_
  exact l_widen (show cu + 0 + 0 ≤ cu + 20 from by omega) (show su + 0 + 0 ≤ su + 160 from by omega) (kk σ2 hI2)
set_option maxHeartbeats 1000000 in
theorem law_case_32 {i : Int32} {σ : aSt} {cu su b L : Nat} {xs : Nat → Int32} (hI : Inv σ) (hc : cu + 20 ≤ 600000) (hs : su + 160 ≤ 7302250) (hin : ∀ k, k ≤ 6 → vp_in (i + nI k) L) (kk : ∀ σ2, Inv σ2 → LW 1306 i [] σ2 (cu + 20) (su + 160) b L xs) : LW 1293 i [] σ cu su b L xs := by
  obtain ⟨r, σ1, σ2, h1, h2, hI2⟩ := op_status hI 
  refine l_x dL_1293 ?_
  refine l_callV (av := []) (st := []) (bb := 0) (ci := 11) (c_X11_status  σ (r, σ1) h1) dL_1294 kd_X11_status wd_51_12 wd_51_13 wd_51_14 rfl rfl (by decide) rfl ⟨Nat.le_of_ble_eq_true rfl, Nat.le_of_ble_eq_true rfl, show cu + 0 ≤ 600000 from by omega, show su + 0 ≤ 7302250 from by omega⟩ (Nat.le_of_ble_eq_true rfl) ?_
  refine l_m dL_1297 ?_
  refine l_callV (av := []) (st := [.int r]) (bb := 57) (ci := 12) (c_X12_status  σ1 (r, σ2) h2) dL_1298 kd_X12_status wd_51_16 wd_51_17 wd_51_18 rfl rfl (by decide) rfl ⟨Nat.le_of_ble_eq_true rfl, Nat.le_of_ble_eq_true rfl, show cu + 0 + 0 ≤ 600000 from by omega, show su + 0 + 0 ≤ 7302250 from by omega⟩ (Nat.le_of_ble_eq_true rfl) ?_
  refine l_eq 1306 dL_1301 rfl ?_
  exact l_widen (show cu + 0 + 0 ≤ cu + 20 from by omega) (show su + 0 + 0 ≤ su + 160 from by omega) (kk σ2 hI2)
