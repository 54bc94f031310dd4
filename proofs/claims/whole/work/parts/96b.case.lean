set_option maxHeartbeats 1000000 in
theorem law_case_11 {i : Int32} {σ : aSt} {cu su b L : Nat} {xs : Nat → Int32} (hI : Inv σ) (hc : cu + 20 ≤ 600000) (hs : su + 160 ≤ 7302250) (hin : ∀ k, k ≤ 6 → vp_in (i + nI k) L) (kk : ∀ σ2, Inv σ2 → LW 1306 i [] σ2 (cu + 20) (su + 160) b L xs) : LW 635 i [] σ cu su b L xs := by
  obtain ⟨r, σ1, σ2, h1, h2, hI2⟩ := op_feed hI ((((xs (i + nI 1).toNatClampNeg).toInt64) <<< ((32 : Int32).toInt64 &&& 63)) ||| (((xs (i + nI 2).toNatClampNeg).toInt64) &&& (4294967295 : Int64))) (xs (i + nI 3).toNatClampNeg)
  refine l_x dL_635 ?_
  refine l_arg (kv := nI 1) aL_636 rfl (hin 1 (by decide)) ?_
  refine l_i2l dL_641 ?_
  refine l_bip (v := 32) dL_642 rfl ?_
  refine l_lshl dL_644 ?_
  refine l_arg (kv := nI 2) aL_645 rfl (hin 2 (by decide)) ?_
  refine l_i2l dL_650 ?_
  refine l_ldc2 dL_651 wd_1_6 ?_
  refine l_land dL_654 ?_
  refine l_lor dL_655 ?_
  refine l_arg (kv := nI 3) aL_656 rfl (hin 3 (by decide)) ?_
  refine l_callV (av := [.long ((((xs (i + nI 1).toNatClampNeg).toInt64) <<< ((32 : Int32).toInt64 &&& 63)) ||| (((xs (i + nI 2).toNatClampNeg).toInt64) &&& (4294967295 : Int64))), .int (xs (i + nI 3).toNatClampNeg)]) (st := []) (bb := 0) (ci := 11) (c_X11_feed ((((xs (i + nI 1).toNatClampNeg).toInt64) <<< ((32 : Int32).toInt64 &&& 63)) ||| (((xs (i + nI 2).toNatClampNeg).toInt64) &&& (4294967295 : Int64))) (xs (i + nI 3).toNatClampNeg) σ (r, σ1) h1) dL_661 kd_X11_feed wd_22_6 wd_22_7 wd_22_8 rfl rfl (by decide) rfl ⟨Nat.le_of_ble_eq_true rfl, Nat.le_of_ble_eq_true rfl, show cu + 0 ≤ 600000 from by omega, show su + 0 ≤ 7302250 from by omega⟩ (Nat.le_of_ble_eq_true rfl) ?_
  refine l_m dL_664 ?_
  refine l_arg (kv := nI 1) aL_665 rfl (hin 1 (by decide)) ?_
  refine l_i2l dL_670 ?_
  refine l_bip (v := 32) dL_671 rfl ?_
  refine l_lshl dL_673 ?_
  refine l_arg (kv := nI 2) aL_674 rfl (hin 2 (by decide)) ?_
  refine l_i2l dL_679 ?_
  refine l_ldc2 dL_680 wd_1_6 ?_
  refine l_land dL_683 ?_
  refine l_lor dL_684 ?_
  refine l_arg (kv := nI 3) aL_685 rfl (hin 3 (by decide)) ?_
  refine l_callV (av := [.long ((((xs (i + nI 1).toNatClampNeg).toInt64) <<< ((32 : Int32).toInt64 &&& 63)) ||| (((xs (i + nI 2).toNatClampNeg).toInt64) &&& (4294967295 : Int64))), .int (xs (i + nI 3).toNatClampNeg)]) (st := [.int r]) (bb := 57) (ci := 12) (c_X12_feed ((((xs (i + nI 1).toNatClampNeg).toInt64) <<< ((32 : Int32).toInt64 &&& 63)) ||| (((xs (i + nI 2).toNatClampNeg).toInt64) &&& (4294967295 : Int64))) (xs (i + nI 3).toNatClampNeg) σ1 (r, σ2) h2) dL_690 kd_X12_feed wd_22_15 wd_22_16 wd_22_17 rfl rfl (by decide) rfl ⟨Nat.le_of_ble_eq_true rfl, Nat.le_of_ble_eq_true rfl, show cu + 0 + 0 ≤ 600000 from by omega, show su + 0 + 0 ≤ 7302250 from by omega⟩ (Nat.le_of_ble_eq_true rfl) ?_
  refine l_eq 1306 dL_693 rfl ?_
  exact l_widen (show cu + 0 + 0 ≤ cu + 20 from by omega) (show su + 0 + 0 ≤ su + 160 from by omega) (kk σ2 hI2)
set_option maxHeartbeats 1000000 in
theorem law_case_12 {i : Int32} {σ : aSt} {cu su b L : Nat} {xs : Nat → Int32} (hI : Inv σ) (hc : cu + 20 ≤ 600000) (hs : su + 160 ≤ 7302250) (hin : ∀ k, k ≤ 6 → vp_in (i + nI k) L) (kk : ∀ σ2, Inv σ2 → LW 1306 i [] σ2 (cu + 20) (su + 160) b L xs) : LW 698 i [] σ cu su b L xs := by
  obtain ⟨r, σ1, σ2, h1, h2, hI2⟩ := op_rules hI 
  refine l_x dL_698 ?_
  refine l_callV (av := []) (st := []) (bb := 0) (ci := 11) (c_X11_rules  σ (r, σ1) h1) dL_699 kd_X11_rules wd_22_22 wd_22_23 wd_23_0 rfl rfl (by decide) rfl ⟨Nat.le_of_ble_eq_true rfl, Nat.le_of_ble_eq_true rfl, show cu + 0 ≤ 600000 from by omega, show su + 0 ≤ 7302250 from by omega⟩ (Nat.le_of_ble_eq_true rfl) ?_
  refine l_m dL_702 ?_
  refine l_callV (av := []) (st := [.int r]) (bb := 57) (ci := 12) (c_X12_rules  σ1 (r, σ2) h2) dL_703 kd_X12_rules wd_29_14 wd_29_15 wd_29_16 rfl rfl (by decide) rfl ⟨Nat.le_of_ble_eq_true rfl, Nat.le_of_ble_eq_true rfl, show cu + 0 + 0 ≤ 600000 from by omega, show su + 0 + 0 ≤ 7302250 from by omega⟩ (Nat.le_of_ble_eq_true rfl) ?_
  refine l_eq 1306 dL_706 rfl ?_
  exact l_widen (show cu + 0 + 0 ≤ cu + 20 from by omega) (show su + 0 + 0 ≤ su + 160 from by omega) (kk σ2 hI2)
set_option maxHeartbeats 1000000 in
theorem law_case_13 {i : Int32} {σ : aSt} {cu su b L : Nat} {xs : Nat → Int32} (hI : Inv σ) (hc : cu + 20 ≤ 600000) (hs : su + 160 ≤ 7302250) (hin : ∀ k, k ≤ 6 → vp_in (i + nI k) L) (kk : ∀ σ2, Inv σ2 → LW 1306 i [] σ2 (cu + 20) (su + 160) b L xs) : LW 711 i [] σ cu su b L xs := by
  obtain ⟨r, σ1, σ2, h1, h2, hI2⟩ := op_fault hI 
  refine l_x dL_711 ?_
  refine l_callV (av := []) (st := []) (bb := 0) (ci := 11) (c_X11_fault  σ (r, σ1) h1) dL_712 kd_X11_fault wd_32_22 wd_32_23 wd_33_0 rfl rfl (by decide) rfl ⟨Nat.le_of_ble_eq_true rfl, Nat.le_of_ble_eq_true rfl, show cu + 0 ≤ 600000 from by omega, show su + 0 ≤ 7302250 from by omega⟩ (Nat.le_of_ble_eq_true rfl) ?_
  refine l_m dL_715 ?_
  refine l_callV (av := []) (st := [.int r]) (bb := 57) (ci := 12) (c_X12_fault  σ1 (r, σ2) h2) dL_716 kd_X12_fault wd_33_2 wd_33_3 wd_33_4 rfl rfl (by decide) rfl ⟨Nat.le_of_ble_eq_true rfl, Nat.le_of_ble_eq_true rfl, show cu + 0 + 0 ≤ 600000 from by omega, show su + 0 + 0 ≤ 7302250 from by omega⟩ (Nat.le_of_ble_eq_true rfl) ?_
  refine l_eq 1306 dL_719 rfl ?_
  exact l_widen (show cu + 0 + 0 ≤ cu + 20 from by omega) (show su + 0 + 0 ≤ su + 160 from by omega) (kk σ2 hI2)
set_option maxHeartbeats 1000000 in
theorem law_case_14 {i : Int32} {σ : aSt} {cu su b L : Nat} {xs : Nat → Int32} (hI : Inv σ) (hc : cu + 20 ≤ 600000) (hs : su + 160 ≤ 7302250) (hin : ∀ k, k ≤ 6 → vp_in (i + nI k) L) (kk : ∀ σ2, Inv σ2 → LW 1306 i [] σ2 (cu + 20) (su + 160) b L xs) : LW 724 i [] σ cu su b L xs := by
  obtain ⟨r, σ1, σ2, h1, h2, hI2⟩ := op_rule hI (xs (i + nI 1).toNatClampNeg)
  refine l_x dL_724 ?_
  refine l_arg (kv := nI 1) aL_725 rfl (hin 1 (by decide)) ?_
  refine l_callV (av := [.int (xs (i + nI 1).toNatClampNeg)]) (st := []) (bb := 0) (ci := 11) (c_X11_rule (xs (i + nI 1).toNatClampNeg) σ (r, σ1) h1) dL_730 kd_X11_rule wd_33_6 wd_33_7 wd_33_8 rfl rfl (by decide) rfl ⟨Nat.le_of_ble_eq_true rfl, Nat.le_of_ble_eq_true rfl, show cu + 0 ≤ 600000 from by omega, show su + 0 ≤ 7302250 from by omega⟩ (Nat.le_of_ble_eq_true rfl) ?_
  refine l_m dL_733 ?_
  refine l_arg (kv := nI 1) aL_734 rfl (hin 1 (by decide)) ?_
  refine l_callV (av := [.int (xs (i + nI 1).toNatClampNeg)]) (st := [.int r]) (bb := 57) (ci := 12) (c_X12_rule (xs (i + nI 1).toNatClampNeg) σ1 (r, σ2) h2) dL_739 kd_X12_rule wd_33_11 wd_33_12 wd_33_13 rfl rfl (by decide) rfl ⟨Nat.le_of_ble_eq_true rfl, Nat.le_of_ble_eq_true rfl, show cu + 0 + 0 ≤ 600000 from by omega, show su + 0 + 0 ≤ 7302250 from by omega⟩ (Nat.le_of_ble_eq_true rfl) ?_
  refine l_eq 1306 dL_742 rfl ?_
  exact l_widen (show cu + 0 + 0 ≤ cu + 20 from by omega) (show su + 0 + 0 ≤ su + 160 from by omega) (kk σ2 hI2)
set_option maxHeartbeats 1000000 in
theorem law_case_15 {i : Int32} {σ : aSt} {cu su b L : Nat} {xs : Nat → Int32} (hI : Inv σ) (hc : cu + 20 ≤ 600000) (hs : su + 160 ≤ 7302250) (hin : ∀ k, k ≤ 6 → vp_in (i + nI k) L) (kk : ∀ σ2, Inv σ2 → LW 1306 i [] σ2 (cu + 20) (su + 160) b L xs) : LW 747 i [] σ cu su b L xs := by
  obtain ⟨r, σ1, σ2, h1, h2, hI2⟩ := op_judged hI (xs (i + nI 1).toNatClampNeg) (xs (i + nI 2).toNatClampNeg) (xs (i + nI 3).toNatClampNeg)
  refine l_x dL_747 ?_
  refine l_arg (kv := nI 1) aL_748 rfl (hin 1 (by decide)) ?_
  refine l_arg (kv := nI 2) aL_753 rfl (hin 2 (by decide)) ?_
  refine l_arg (kv := nI 3) aL_758 rfl (hin 3 (by decide)) ?_
  refine l_callV (av := [.int (xs (i + nI 1).toNatClampNeg), .int (xs (i + nI 2).toNatClampNeg), .int (xs (i + nI 3).toNatClampNeg)]) (st := []) (bb := 0) (ci := 11) (c_X11_judged (xs (i + nI 1).toNatClampNeg) (xs (i + nI 2).toNatClampNeg) (xs (i + nI 3).toNatClampNeg) σ (r, σ1) h1) dL_763 kd_X11_judged wd_33_15 wd_33_16 wd_33_17 rfl rfl (by decide) rfl ⟨Nat.le_of_ble_eq_true rfl, Nat.le_of_ble_eq_true rfl, show cu + 0 ≤ 600000 from by omega, show su + 0 ≤ 7302250 from by omega⟩ (Nat.le_of_ble_eq_true rfl) ?_
  refine l_m dL_766 ?_
  refine l_arg (kv := nI 1) aL_767 rfl (hin 1 (by decide)) ?_
  refine l_arg (kv := nI 2) aL_772 rfl (hin 2 (by decide)) ?_
  refine l_arg (kv := nI 3) aL_777 rfl (hin 3 (by decide)) ?_
  refine l_callV (av := [.int (xs (i + nI 1).toNatClampNeg), .int (xs (i + nI 2).toNatClampNeg), .int (xs (i + nI 3).toNatClampNeg)]) (st := [.int r]) (bb := 57) (ci := 12) (c_X12_judged (xs (i + nI 1).toNatClampNeg) (xs (i + nI 2).toNatClampNeg) (xs (i + nI 3).toNatClampNeg) σ1 (r, σ2) h2) dL_782 kd_X12_judged wd_36_0 wd_36_1 wd_36_2 rfl rfl (by decide) rfl ⟨Nat.le_of_ble_eq_true rfl, Nat.le_of_ble_eq_true rfl, show cu + 0 + 0 ≤ 600000 from by omega, show su + 0 + 0 ≤ 7302250 from by omega⟩ (Nat.le_of_ble_eq_true rfl) ?_
  refine l_eq 1306 dL_785 rfl ?_
  exact l_widen (show cu + 0 + 0 ≤ cu + 20 from by omega) (show su + 0 + 0 ≤ su + 160 from by omega) (kk σ2 hI2)
set_option maxHeartbeats 1000000 in
theorem law_case_16 {i : Int32} {σ : aSt} {cu su b L : Nat} {xs : Nat → Int32} (hI : Inv σ) (hc : cu + 20 ≤ 600000) (hs : su + 160 ≤ 7302250) (hin : ∀ k, k ≤ 6 → vp_in (i + nI k) L) (kk : ∀ σ2, Inv σ2 → LW 1306 i [] σ2 (cu + 20) (su + 160) b L xs) : LW 790 i [] σ cu su b L xs := by
  obtain ⟨r, σ1, σ2, h1, h2, hI2⟩ := op_would hI (xs (i + nI 1).toNatClampNeg) (xs (i + nI 2).toNatClampNeg)
  refine l_x dL_790 ?_
  refine l_arg (kv := nI 1) aL_791 rfl (hin 1 (by decide)) ?_
  refine l_arg (kv := nI 2) aL_796 rfl (hin 2 (by decide)) ?_
  refine l_callV (av := [.int (xs (i + nI 1).toNatClampNeg), .int (xs (i + nI 2).toNatClampNeg)]) (st := []) (bb := 0) (ci := 11) (c_X11_would (xs (i + nI 1).toNatClampNeg) (xs (i + nI 2).toNatClampNeg) σ (r, σ1) h1) dL_801 kd_X11_would wd_37_0 wd_37_1 wd_37_2 rfl rfl (by decide) rfl ⟨Nat.le_of_ble_eq_true rfl, Nat.le_of_ble_eq_true rfl, show cu + 0 ≤ 600000 from by omega, show su + 0 ≤ 7302250 from by omega⟩ (Nat.le_of_ble_eq_true rfl) ?_
  refine l_m dL_804 ?_
  refine l_arg (kv := nI 1) aL_805 rfl (hin 1 (by decide)) ?_
  refine l_arg (kv := nI 2) aL_810 rfl (hin 2 (by decide)) ?_
  refine l_callV (av := [.int (xs (i + nI 1).toNatClampNeg), .int (xs (i + nI 2).toNatClampNeg)]) (st := [.int r]) (bb := 57) (ci := 12) (c_X12_would (xs (i + nI 1).toNatClampNeg) (xs (i + nI 2).toNatClampNeg) σ1 (r, σ2) h2) dL_815 kd_X12_would wd_37_10 wd_37_11 wd_37_12 rfl rfl (by decide) rfl ⟨Nat.le_of_ble_eq_true rfl, Nat.le_of_ble_eq_true rfl, show cu + 0 + 0 ≤ 600000 from by omega, show su + 0 + 0 ≤ 7302250 from by omega⟩ (Nat.le_of_ble_eq_true rfl) ?_
  refine l_eq 1306 dL_818 rfl ?_
  exact l_widen (show cu + 0 + 0 ≤ cu + 20 from by omega) (show su + 0 + 0 ≤ su + 160 from by omega) (kk σ2 hI2)
set_option maxHeartbeats 1000000 in
theorem law_case_17 {i : Int32} {σ : aSt} {cu su b L : Nat} {xs : Nat → Int32} (hI : Inv σ) (hc : cu + 20 ≤ 600000) (hs : su + 160 ≤ 7302250) (hin : ∀ k, k ≤ 6 → vp_in (i + nI k) L) (kk : ∀ σ2, Inv σ2 → LW 1306 i [] σ2 (cu + 20) (su + 160) b L xs) : LW 823 i [] σ cu su b L xs := by
  obtain ⟨r, σ1, σ2, h1, h2, hI2⟩ := op_acts hI (xs (i + nI 1).toNatClampNeg)
  refine l_x dL_823 ?_
  refine l_arg (kv := nI 1) aL_824 rfl (hin 1 (by decide)) ?_
  refine l_callV (av := [.int (xs (i + nI 1).toNatClampNeg)]) (st := []) (bb := 0) (ci := 11) (c_X11_acts (xs (i + nI 1).toNatClampNeg) σ (r, σ1) h1) dL_829 kd_X11_acts wd_37_14 wd_37_15 wd_37_16 rfl rfl (by decide) rfl ⟨Nat.le_of_ble_eq_true rfl, Nat.le_of_ble_eq_true rfl, show cu + 0 ≤ 600000 from by omega, show su + 0 ≤ 7302250 from by omega⟩ (Nat.le_of_ble_eq_true rfl) ?_
  refine l_m dL_832 ?_
  refine l_arg (kv := nI 1) aL_833 rfl (hin 1 (by decide)) ?_
  refine l_callV (av := [.int (xs (i + nI 1).toNatClampNeg)]) (st := [.int r]) (bb := 57) (ci := 12) (c_X12_acts (xs (i + nI 1).toNatClampNeg) σ1 (r, σ2) h2) dL_838 kd_X12_acts wd_38_4 wd_38_5 wd_38_6 rfl rfl (by decide) rfl ⟨Nat.le_of_ble_eq_true rfl, Nat.le_of_ble_eq_true rfl, show cu + 0 + 0 ≤ 600000 from by omega, show su + 0 + 0 ≤ 7302250 from by omega⟩ (Nat.le_of_ble_eq_true rfl) ?_
  refine l_eq 1306 dL_841 rfl ?_
  exact l_widen (show cu + 0 + 0 ≤ cu + 20 from by omega) (show su + 0 + 0 ≤ su + 160 from by omega) (kk σ2 hI2)
set_option maxHeartbeats 1000000 in
theorem law_case_18 {i : Int32} {σ : aSt} {cu su b L : Nat} {xs : Nat → Int32} (hI : Inv σ) (hc : cu + 20 ≤ 600000) (hs : su + 160 ≤ 7302250) (hin : ∀ k, k ≤ 6 → vp_in (i + nI k) L) (kk : ∀ σ2, Inv σ2 → LW 1306 i [] σ2 (cu + 20) (su + 160) b L xs) : LW 846 i [] σ cu su b L xs := by
  obtain ⟨r, σ1, σ2, h1, h2, hI2⟩ := op_verdict hI (xs (i + nI 1).toNatClampNeg) (xs (i + nI 2).toNatClampNeg)
  refine l_x dL_846 ?_
  refine l_arg (kv := nI 1) aL_847 rfl (hin 1 (by decide)) ?_
  refine l_arg (kv := nI 2) aL_852 rfl (hin 2 (by decide)) ?_
  refine l_callV (av := [.int (xs (i + nI 1).toNatClampNeg), .int (xs (i + nI 2).toNatClampNeg)]) (st := []) (bb := 0) (ci := 11) (c_X11_verdict (xs (i + nI 1).toNatClampNeg) (xs (i + nI 2).toNatClampNeg) σ (r, σ1) h1) dL_857 kd_X11_verdict wd_38_12 wd_38_13 wd_38_14 rfl rfl (by decide) rfl ⟨Nat.le_of_ble_eq_true rfl, Nat.le_of_ble_eq_true rfl, show cu + 0 ≤ 600000 from by omega, show su + 0 ≤ 7302250 from by omega⟩ (Nat.le_of_ble_eq_true rfl) ?_
  refine l_m dL_860 ?_
  refine l_arg (kv := nI 1) aL_861 rfl (hin 1 (by decide)) ?_
  refine l_arg (kv := nI 2) aL_866 rfl (hin 2 (by decide)) ?_
  refine l_callV (av := [.int (xs (i + nI 1).toNatClampNeg), .int (xs (i + nI 2).toNatClampNeg)]) (st := [.int r]) (bb := 57) (ci := 12) (c_X12_verdict (xs (i + nI 1).toNatClampNeg) (xs (i + nI 2).toNatClampNeg) σ1 (r, σ2) h2) dL_871 kd_X12_verdict wd_38_16 wd_38_17 wd_38_18 rfl rfl (by decide) rfl ⟨Nat.le_of_ble_eq_true rfl, Nat.le_of_ble_eq_true rfl, show cu + 0 + 0 ≤ 600000 from by omega, show su + 0 + 0 ≤ 7302250 from by omega⟩ (Nat.le_of_ble_eq_true rfl) ?_
  refine l_eq 1306 dL_874 rfl ?_
  exact l_widen (show cu + 0 + 0 ≤ cu + 20 from by omega) (show su + 0 + 0 ≤ su + 160 from by omega) (kk σ2 hI2)
set_option maxHeartbeats 1000000 in
theorem law_case_19 {i : Int32} {σ : aSt} {cu su b L : Nat} {xs : Nat → Int32} (hI : Inv σ) (hc : cu + 20 ≤ 600000) (hs : su + 160 ≤ 7302250) (hin : ∀ k, k ≤ 6 → vp_in (i + nI k) L) (kk : ∀ σ2, Inv σ2 → LW 1306 i [] σ2 (cu + 20) (su + 160) b L xs) : LW 879 i [] σ cu su b L xs := by
  obtain ⟨r, σ1, σ2, h1, h2, hI2⟩ := op_queue hI (xs (i + nI 1).toNatClampNeg)
  refine l_x dL_879 ?_
  refine l_arg (kv := nI 1) aL_880 rfl (hin 1 (by decide)) ?_
  refine l_callV (av := [.int (xs (i + nI 1).toNatClampNeg)]) (st := []) (bb := 0) (ci := 11) (c_X11_queue (xs (i + nI 1).toNatClampNeg) σ (r, σ1) h1) dL_885 kd_X11_queue wd_38_20 wd_38_21 wd_38_22 rfl rfl (by decide) rfl ⟨Nat.le_of_ble_eq_true rfl, Nat.le_of_ble_eq_true rfl, show cu + 0 ≤ 600000 from by omega, show su + 0 ≤ 7302250 from by omega⟩ (Nat.le_of_ble_eq_true rfl) ?_
  refine l_m dL_888 ?_
  refine l_arg (kv := nI 1) aL_889 rfl (hin 1 (by decide)) ?_
  refine l_callV (av := [.int (xs (i + nI 1).toNatClampNeg)]) (st := [.int r]) (bb := 57) (ci := 12) (c_X12_queue (xs (i + nI 1).toNatClampNeg) σ1 (r, σ2) h2) dL_894 kd_X12_queue wd_39_14 wd_39_15 wd_39_16 rfl rfl (by decide) rfl ⟨Nat.le_of_ble_eq_true rfl, Nat.le_of_ble_eq_true rfl, show cu + 0 + 0 ≤ 600000 from by omega, show su + 0 + 0 ≤ 7302250 from by omega⟩ (Nat.le_of_ble_eq_true rfl) ?_
  refine l_eq 1306 dL_897 rfl ?_
  exact l_widen (show cu + 0 + 0 ≤ cu + 20 from by omega) (show su + 0 + 0 ≤ su + 160 from by omega) (kk σ2 hI2)
set_option maxHeartbeats 1000000 in
theorem law_case_20 {i : Int32} {σ : aSt} {cu su b L : Nat} {xs : Nat → Int32} (hI : Inv σ) (hc : cu + 20 ≤ 600000) (hs : su + 160 ≤ 7302250) (hin : ∀ k, k ≤ 6 → vp_in (i + nI k) L) (kk : ∀ σ2, Inv σ2 → LW 1306 i [] σ2 (cu + 20) (su + 160) b L xs) : LW 902 i [] σ cu su b L xs := by
  obtain ⟨r, σ1, σ2, h1, h2, hI2⟩ := op_cost hI (xs (i + nI 1).toNatClampNeg) (xs (i + nI 2).toNatClampNeg)
  refine l_x dL_902 ?_
  refine l_arg (kv := nI 1) aL_903 rfl (hin 1 (by decide)) ?_
  refine l_arg (kv := nI 2) aL_908 rfl (hin 2 (by decide)) ?_
  refine l_callV (av := [.int (xs (i + nI 1).toNatClampNeg), .int (xs (i + nI 2).toNatClampNeg)]) (st := []) (bb := 0) (ci := 11) (c_X11_cost (xs (i + nI 1).toNatClampNeg) (xs (i + nI 2).toNatClampNeg) σ (r, σ1) h1) dL_913 kd_X11_cost wd_39_23 wd_40_0 wd_40_1 rfl rfl (by decide) rfl ⟨Nat.le_of_ble_eq_true rfl, Nat.le_of_ble_eq_true rfl, show cu + 0 ≤ 600000 from by omega, show su + 0 ≤ 7302250 from by omega⟩ (Nat.le_of_ble_eq_true rfl) ?_
  refine l_m dL_916 ?_
  refine l_arg (kv := nI 1) aL_917 rfl (hin 1 (by decide)) ?_
  refine l_arg (kv := nI 2) aL_922 rfl (hin 2 (by decide)) ?_
  refine l_callV (av := [.int (xs (i + nI 1).toNatClampNeg), .int (xs (i + nI 2).toNatClampNeg)]) (st := [.int r]) (bb := 57) (ci := 12) (c_X12_cost (xs (i + nI 1).toNatClampNeg) (xs (i + nI 2).toNatClampNeg) σ1 (r, σ2) h2) dL_927 kd_X12_cost wd_40_5 wd_40_6 wd_40_7 rfl rfl (by decide) rfl ⟨Nat.le_of_ble_eq_true rfl, Nat.le_of_ble_eq_true rfl, show cu + 0 + 0 ≤ 600000 from by omega, show su + 0 + 0 ≤ 7302250 from by omega⟩ (Nat.le_of_ble_eq_true rfl) ?_
  refine l_eq 1306 dL_930 rfl ?_
  exact l_widen (show cu + 0 + 0 ≤ cu + 20 from by omega) (show su + 0 + 0 ≤ su + 160 from by omega) (kk σ2 hI2)
set_option maxHeartbeats 1000000 in
theorem law_case_21 {i : Int32} {σ : aSt} {cu su b L : Nat} {xs : Nat → Int32} (hI : Inv σ) (hc : cu + 20 ≤ 600000) (hs : su + 160 ≤ 7302250) (hin : ∀ k, k ≤ 6 → vp_in (i + nI k) L) (kk : ∀ σ2, Inv σ2 → LW 1306 i [] σ2 (cu + 20) (su + 160) b L xs) : LW 935 i [] σ cu su b L xs := by
  obtain ⟨r, σ1, σ2, h1, h2, hI2⟩ := op_setting hI (xs (i + nI 1).toNatClampNeg) (xs (i + nI 2).toNatClampNeg)
  refine l_x dL_935 ?_
  refine l_arg (kv := nI 1) aL_936 rfl (hin 1 (by decide)) ?_
  refine l_arg (kv := nI 2) aL_941 rfl (hin 2 (by decide)) ?_
  refine l_callV (av := [.int (xs (i + nI 1).toNatClampNeg), .int (xs (i + nI 2).toNatClampNeg)]) (st := []) (bb := 0) (ci := 11) (c_X11_setting (xs (i + nI 1).toNatClampNeg) (xs (i + nI 2).toNatClampNeg) σ (r, σ1) h1) dL_946 kd_X11_setting wd_40_9 wd_40_10 wd_40_11 rfl rfl (by decide) rfl ⟨Nat.le_of_ble_eq_true rfl, Nat.le_of_ble_eq_true rfl, show cu + 0 ≤ 600000 from by omega, show su + 0 ≤ 7302250 from by omega⟩ (Nat.le_of_ble_eq_true rfl) ?_
  refine l_m dL_949 ?_
  refine l_arg (kv := nI 1) aL_950 rfl (hin 1 (by decide)) ?_
  refine l_arg (kv := nI 2) aL_955 rfl (hin 2 (by decide)) ?_
  refine l_callV (av := [.int (xs (i + nI 1).toNatClampNeg), .int (xs (i + nI 2).toNatClampNeg)]) (st := [.long r]) (bb := 57) (ci := 12) (c_X12_setting (xs (i + nI 1).toNatClampNeg) (xs (i + nI 2).toNatClampNeg) σ1 (r, σ2) h2) dL_960 kd_X12_setting wd_41_12 wd_41_13 wd_41_14 rfl rfl (by decide) rfl ⟨Nat.le_of_ble_eq_true rfl, Nat.le_of_ble_eq_true rfl, show cu + 0 + 0 ≤ 600000 from by omega, show su + 0 + 0 ≤ 7302250 from by omega⟩ (Nat.le_of_ble_eq_true rfl) ?_
  refine l_leq 1306 dL_963 dL_964 rfl ?_
  exact l_widen (show cu + 0 + 0 ≤ cu + 20 from by omega) (show su + 0 + 0 ≤ su + 160 from by omega) (kk σ2 hI2)
