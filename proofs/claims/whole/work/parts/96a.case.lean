set_option maxHeartbeats 1000000 in
theorem law_case_0 {i : Int32} {σ : aSt} {cu su b L : Nat} {xs : Nat → Int32} (hI : Inv σ) (hc : cu + 20 ≤ 600000) (hs : su + 160 ≤ 7302250) (hin : ∀ k, k ≤ 6 → vp_in (i + nI k) L) (kk : ∀ σ2, Inv σ2 → LW 1306 i [] σ2 (cu + 20) (su + 160) b L xs) : LW 180 i [] σ cu su b L xs := by
  obtain ⟨r, σ1, σ2, h1, h2, hI2⟩ := op_sheet hI (xs (i + nI 1).toNatClampNeg) (xs (i + nI 2).toNatClampNeg) (xs (i + nI 3).toNatClampNeg)
  refine l_x dL_180 ?_
  refine l_arg (kv := nI 1) aL_181 rfl (hin 1 (by decide)) ?_
  refine l_arg (kv := nI 2) aL_186 rfl (hin 2 (by decide)) ?_
  refine l_arg (kv := nI 3) aL_191 rfl (hin 3 (by decide)) ?_
  refine l_callV (av := [.int (xs (i + nI 1).toNatClampNeg), .int (xs (i + nI 2).toNatClampNeg), .int (xs (i + nI 3).toNatClampNeg)]) (st := []) (bb := 0) (ci := 11) (c_X11_sheet (xs (i + nI 1).toNatClampNeg) (xs (i + nI 2).toNatClampNeg) (xs (i + nI 3).toNatClampNeg) σ (r, σ1) h1) dL_196 kd_X11_sheet wd_9_14 wd_9_15 wd_9_16 rfl rfl (by decide) rfl ⟨Nat.le_of_ble_eq_true rfl, Nat.le_of_ble_eq_true rfl, show cu + 0 ≤ 600000 from by omega, show su + 0 ≤ 7302250 from by omega⟩ (Nat.le_of_ble_eq_true rfl) ?_
  refine l_m dL_199 ?_
  refine l_arg (kv := nI 1) aL_200 rfl (hin 1 (by decide)) ?_
  refine l_arg (kv := nI 2) aL_205 rfl (hin 2 (by decide)) ?_
  refine l_arg (kv := nI 3) aL_210 rfl (hin 3 (by decide)) ?_
  refine l_callV (av := [.int (xs (i + nI 1).toNatClampNeg), .int (xs (i + nI 2).toNatClampNeg), .int (xs (i + nI 3).toNatClampNeg)]) (st := [.int r]) (bb := 57) (ci := 12) (c_X12_sheet (xs (i + nI 1).toNatClampNeg) (xs (i + nI 2).toNatClampNeg) (xs (i + nI 3).toNatClampNeg) σ1 (r, σ2) h2) dL_215 kd_X12_sheet wd_10_15 wd_10_16 wd_10_17 rfl rfl (by decide) rfl ⟨Nat.le_of_ble_eq_true rfl, Nat.le_of_ble_eq_true rfl, show cu + 0 + 0 ≤ 600000 from by omega, show su + 0 + 0 ≤ 7302250 from by omega⟩ (Nat.le_of_ble_eq_true rfl) ?_
  refine l_eq 1306 dL_218 rfl ?_
  exact l_widen (show cu + 0 + 0 ≤ cu + 20 from by omega) (show su + 0 + 0 ≤ su + 160 from by omega) (kk σ2 hI2)
set_option maxHeartbeats 1000000 in
theorem law_case_1 {i : Int32} {σ : aSt} {cu su b L : Nat} {xs : Nat → Int32} (hI : Inv σ) (hc : cu + 20 ≤ 600000) (hs : su + 160 ≤ 7302250) (hin : ∀ k, k ≤ 6 → vp_in (i + nI k) L) (kk : ∀ σ2, Inv σ2 → LW 1306 i [] σ2 (cu + 20) (su + 160) b L xs) : LW 223 i [] σ cu su b L xs := by
  obtain ⟨r, σ1, σ2, h1, h2, hI2⟩ := op_set hI (xs (i + nI 1).toNatClampNeg) (xs (i + nI 2).toNatClampNeg) (xs (i + nI 3).toNatClampNeg)
  refine l_x dL_223 ?_
  refine l_arg (kv := nI 1) aL_224 rfl (hin 1 (by decide)) ?_
  refine l_arg (kv := nI 2) aL_229 rfl (hin 2 (by decide)) ?_
  refine l_arg (kv := nI 3) aL_234 rfl (hin 3 (by decide)) ?_
  refine l_callV (av := [.int (xs (i + nI 1).toNatClampNeg), .int (xs (i + nI 2).toNatClampNeg), .int (xs (i + nI 3).toNatClampNeg)]) (st := []) (bb := 0) (ci := 11) (c_X11_set (xs (i + nI 1).toNatClampNeg) (xs (i + nI 2).toNatClampNeg) (xs (i + nI 3).toNatClampNeg) σ (r, σ1) h1) dL_239 kd_X11_set wd_11_11 wd_11_12 wd_11_13 rfl rfl (by decide) rfl ⟨Nat.le_of_ble_eq_true rfl, Nat.le_of_ble_eq_true rfl, show cu + 0 ≤ 600000 from by omega, show su + 0 ≤ 7302250 from by omega⟩ (Nat.le_of_ble_eq_true rfl) ?_
  refine l_m dL_242 ?_
  refine l_arg (kv := nI 1) aL_243 rfl (hin 1 (by decide)) ?_
  refine l_arg (kv := nI 2) aL_248 rfl (hin 2 (by decide)) ?_
  refine l_arg (kv := nI 3) aL_253 rfl (hin 3 (by decide)) ?_
  refine l_callV (av := [.int (xs (i + nI 1).toNatClampNeg), .int (xs (i + nI 2).toNatClampNeg), .int (xs (i + nI 3).toNatClampNeg)]) (st := [.int r]) (bb := 57) (ci := 12) (c_X12_set (xs (i + nI 1).toNatClampNeg) (xs (i + nI 2).toNatClampNeg) (xs (i + nI 3).toNatClampNeg) σ1 (r, σ2) h2) dL_258 kd_X12_set wd_12_1 wd_12_2 wd_12_3 rfl rfl (by decide) rfl ⟨Nat.le_of_ble_eq_true rfl, Nat.le_of_ble_eq_true rfl, show cu + 0 + 0 ≤ 600000 from by omega, show su + 0 + 0 ≤ 7302250 from by omega⟩ (Nat.le_of_ble_eq_true rfl) ?_
  refine l_eq 1306 dL_261 rfl ?_
  exact l_widen (show cu + 0 + 0 ≤ cu + 20 from by omega) (show su + 0 + 0 ≤ su + 160 from by omega) (kk σ2 hI2)
set_option maxHeartbeats 1000000 in
theorem law_case_2 {i : Int32} {σ : aSt} {cu su b L : Nat} {xs : Nat → Int32} (hI : Inv σ) (hc : cu + 20 ≤ 600000) (hs : su + 160 ≤ 7302250) (hin : ∀ k, k ≤ 6 → vp_in (i + nI k) L) (kk : ∀ σ2, Inv σ2 → LW 1306 i [] σ2 (cu + 20) (su + 160) b L xs) : LW 266 i [] σ cu su b L xs := by
  obtain ⟨r, σ1, σ2, h1, h2, hI2⟩ := op_copy hI (xs (i + nI 1).toNatClampNeg) (xs (i + nI 2).toNatClampNeg) (xs (i + nI 3).toNatClampNeg) (xs (i + nI 4).toNatClampNeg) (xs (i + nI 5).toNatClampNeg)
  refine l_x dL_266 ?_
  refine l_arg (kv := nI 1) aL_267 rfl (hin 1 (by decide)) ?_
  refine l_arg (kv := nI 2) aL_272 rfl (hin 2 (by decide)) ?_
  refine l_arg (kv := nI 3) aL_277 rfl (hin 3 (by decide)) ?_
  refine l_arg (kv := nI 4) aL_282 rfl (hin 4 (by decide)) ?_
  refine l_arg (kv := nI 5) aL_287 rfl (hin 5 (by decide)) ?_
  refine l_callV (av := [.int (xs (i + nI 1).toNatClampNeg), .int (xs (i + nI 2).toNatClampNeg), .int (xs (i + nI 3).toNatClampNeg), .int (xs (i + nI 4).toNatClampNeg), .int (xs (i + nI 5).toNatClampNeg)]) (st := []) (bb := 0) (ci := 11) (c_X11_copy (xs (i + nI 1).toNatClampNeg) (xs (i + nI 2).toNatClampNeg) (xs (i + nI 3).toNatClampNeg) (xs (i + nI 4).toNatClampNeg) (xs (i + nI 5).toNatClampNeg) σ (r, σ1) h1) dL_292 kd_X11_copy wd_12_5 wd_12_6 wd_12_7 rfl rfl (by decide) rfl ⟨Nat.le_of_ble_eq_true rfl, Nat.le_of_ble_eq_true rfl, show cu + 0 ≤ 600000 from by omega, show su + 0 ≤ 7302250 from by omega⟩ (Nat.le_of_ble_eq_true rfl) ?_
  refine l_m dL_295 ?_
  refine l_arg (kv := nI 1) aL_296 rfl (hin 1 (by decide)) ?_
  refine l_arg (kv := nI 2) aL_301 rfl (hin 2 (by decide)) ?_
  refine l_arg (kv := nI 3) aL_306 rfl (hin 3 (by decide)) ?_
  refine l_arg (kv := nI 4) aL_311 rfl (hin 4 (by decide)) ?_
  refine l_arg (kv := nI 5) aL_316 rfl (hin 5 (by decide)) ?_
  refine l_callV (av := [.int (xs (i + nI 1).toNatClampNeg), .int (xs (i + nI 2).toNatClampNeg), .int (xs (i + nI 3).toNatClampNeg), .int (xs (i + nI 4).toNatClampNeg), .int (xs (i + nI 5).toNatClampNeg)]) (st := [.int r]) (bb := 57) (ci := 12) (c_X12_copy (xs (i + nI 1).toNatClampNeg) (xs (i + nI 2).toNatClampNeg) (xs (i + nI 3).toNatClampNeg) (xs (i + nI 4).toNatClampNeg) (xs (i + nI 5).toNatClampNeg) σ1 (r, σ2) h2) dL_321 kd_X12_copy wd_12_15 wd_12_16 wd_12_17 rfl rfl (by decide) rfl ⟨Nat.le_of_ble_eq_true rfl, Nat.le_of_ble_eq_true rfl, show cu + 0 + 0 ≤ 600000 from by omega, show su + 0 + 0 ≤ 7302250 from by omega⟩ (Nat.le_of_ble_eq_true rfl) ?_
  refine l_eq 1306 dL_324 rfl ?_
  exact l_widen (show cu + 0 + 0 ≤ cu + 20 from by omega) (show su + 0 + 0 ≤ su + 160 from by omega) (kk σ2 hI2)
set_option maxHeartbeats 1000000 in
theorem law_case_3 {i : Int32} {σ : aSt} {cu su b L : Nat} {xs : Nat → Int32} (hI : Inv σ) (hc : cu + 20 ≤ 600000) (hs : su + 160 ≤ 7302250) (hin : ∀ k, k ≤ 6 → vp_in (i + nI k) L) (kk : ∀ σ2, Inv σ2 → LW 1306 i [] σ2 (cu + 20) (su + 160) b L xs) : LW 329 i [] σ cu su b L xs := by
  obtain ⟨r, σ1, σ2, h1, h2, hI2⟩ := op_drop hI (xs (i + nI 1).toNatClampNeg)
  refine l_x dL_329 ?_
  refine l_arg (kv := nI 1) aL_330 rfl (hin 1 (by decide)) ?_
  refine l_callV (av := [.int (xs (i + nI 1).toNatClampNeg)]) (st := []) (bb := 0) (ci := 11) (c_X11_drop (xs (i + nI 1).toNatClampNeg) σ (r, σ1) h1) dL_335 kd_X11_drop wd_12_19 wd_12_20 wd_12_21 rfl rfl (by decide) rfl ⟨Nat.le_of_ble_eq_true rfl, Nat.le_of_ble_eq_true rfl, show cu + 0 ≤ 600000 from by omega, show su + 0 ≤ 7302250 from by omega⟩ (Nat.le_of_ble_eq_true rfl) ?_
  refine l_m dL_338 ?_
  refine l_arg (kv := nI 1) aL_339 rfl (hin 1 (by decide)) ?_
  refine l_callV (av := [.int (xs (i + nI 1).toNatClampNeg)]) (st := [.int r]) (bb := 57) (ci := 12) (c_X12_drop (xs (i + nI 1).toNatClampNeg) σ1 (r, σ2) h2) dL_344 kd_X12_drop wd_13_0 wd_13_1 wd_13_2 rfl rfl (by decide) rfl ⟨Nat.le_of_ble_eq_true rfl, Nat.le_of_ble_eq_true rfl, show cu + 0 + 0 ≤ 600000 from by omega, show su + 0 + 0 ≤ 7302250 from by omega⟩ (Nat.le_of_ble_eq_true rfl) ?_
  refine l_eq 1306 dL_347 rfl ?_
  exact l_widen (show cu + 0 + 0 ≤ cu + 20 from by omega) (show su + 0 + 0 ≤ su + 160 from by omega) (kk σ2 hI2)
set_option maxHeartbeats 1000000 in
theorem law_case_4 {i : Int32} {σ : aSt} {cu su b L : Nat} {xs : Nat → Int32} (hI : Inv σ) (hc : cu + 20 ≤ 600000) (hs : su + 160 ≤ 7302250) (hin : ∀ k, k ≤ 6 → vp_in (i + nI k) L) (kk : ∀ σ2, Inv σ2 → LW 1306 i [] σ2 (cu + 20) (su + 160) b L xs) : LW 352 i [] σ cu su b L xs := by
  obtain ⟨r, σ1, σ2, h1, h2, hI2⟩ := op_pay hI (xs (i + nI 1).toNatClampNeg) (xs (i + nI 2).toNatClampNeg) (xs (i + nI 3).toNatClampNeg) (xs (i + nI 4).toNatClampNeg) (xs (i + nI 5).toNatClampNeg) (xs (i + nI 6).toNatClampNeg)
  refine l_x dL_352 ?_
  refine l_arg (kv := nI 1) aL_353 rfl (hin 1 (by decide)) ?_
  refine l_arg (kv := nI 2) aL_358 rfl (hin 2 (by decide)) ?_
  refine l_arg (kv := nI 3) aL_363 rfl (hin 3 (by decide)) ?_
  refine l_arg (kv := nI 4) aL_368 rfl (hin 4 (by decide)) ?_
  refine l_arg (kv := nI 5) aL_373 rfl (hin 5 (by decide)) ?_
  refine l_arg6 (kv := nI 6) aL_378 rfl (hin 6 (by decide)) ?_
  refine l_callV (av := [.int (xs (i + nI 1).toNatClampNeg), .int (xs (i + nI 2).toNatClampNeg), .int (xs (i + nI 3).toNatClampNeg), .int (xs (i + nI 4).toNatClampNeg), .int (xs (i + nI 5).toNatClampNeg), .int (xs (i + nI 6).toNatClampNeg)]) (st := []) (bb := 0) (ci := 11) (c_X11_pay (xs (i + nI 1).toNatClampNeg) (xs (i + nI 2).toNatClampNeg) (xs (i + nI 3).toNatClampNeg) (xs (i + nI 4).toNatClampNeg) (xs (i + nI 5).toNatClampNeg) (xs (i + nI 6).toNatClampNeg) σ (r, σ1) h1) dL_384 kd_X11_pay wd_13_4 wd_13_5 wd_13_6 rfl rfl (by decide) rfl ⟨Nat.le_of_ble_eq_true rfl, Nat.le_of_ble_eq_true rfl, show cu + 1 ≤ 600000 from by omega, show su + 8 ≤ 7302250 from by omega⟩ (Nat.le_of_ble_eq_true rfl) ?_
  refine l_m dL_387 ?_
  refine l_arg (kv := nI 1) aL_388 rfl (hin 1 (by decide)) ?_
  refine l_arg (kv := nI 2) aL_393 rfl (hin 2 (by decide)) ?_
  refine l_arg (kv := nI 3) aL_398 rfl (hin 3 (by decide)) ?_
  refine l_arg (kv := nI 4) aL_403 rfl (hin 4 (by decide)) ?_
  refine l_arg (kv := nI 5) aL_408 rfl (hin 5 (by decide)) ?_
  refine l_arg6 (kv := nI 6) aL_413 rfl (hin 6 (by decide)) ?_
  refine l_callV (av := [.int (xs (i + nI 1).toNatClampNeg), .int (xs (i + nI 2).toNatClampNeg), .int (xs (i + nI 3).toNatClampNeg), .int (xs (i + nI 4).toNatClampNeg), .int (xs (i + nI 5).toNatClampNeg), .int (xs (i + nI 6).toNatClampNeg)]) (st := [.int r]) (bb := 57) (ci := 12) (c_X12_pay (xs (i + nI 1).toNatClampNeg) (xs (i + nI 2).toNatClampNeg) (xs (i + nI 3).toNatClampNeg) (xs (i + nI 4).toNatClampNeg) (xs (i + nI 5).toNatClampNeg) (xs (i + nI 6).toNatClampNeg) σ1 (r, σ2) h2) dL_419 kd_X12_pay wd_14_23 wd_15_0 wd_15_1 rfl rfl (by decide) rfl ⟨Nat.le_of_ble_eq_true rfl, Nat.le_of_ble_eq_true rfl, show cu + 1 + 0 ≤ 600000 from by omega, show su + 8 + 0 ≤ 7302250 from by omega⟩ (Nat.le_of_ble_eq_true rfl) ?_
  refine l_eq 1306 dL_422 rfl ?_
  exact l_widen (show cu + 1 + 0 ≤ cu + 20 from by omega) (show su + 8 + 0 ≤ su + 160 from by omega) (kk σ2 hI2)
set_option maxHeartbeats 1000000 in
theorem law_case_5 {i : Int32} {σ : aSt} {cu su b L : Nat} {xs : Nat → Int32} (hI : Inv σ) (hc : cu + 20 ≤ 600000) (hs : su + 160 ≤ 7302250) (hin : ∀ k, k ≤ 6 → vp_in (i + nI k) L) (kk : ∀ σ2, Inv σ2 → LW 1306 i [] σ2 (cu + 20) (su + 160) b L xs) : LW 427 i [] σ cu su b L xs := by
  obtain ⟨r, σ1, σ2, h1, h2, hI2⟩ := op_batch hI (xs (i + nI 1).toNatClampNeg) (xs (i + nI 2).toNatClampNeg) (xs (i + nI 3).toNatClampNeg)
  refine l_x dL_427 ?_
  refine l_arg (kv := nI 1) aL_428 rfl (hin 1 (by decide)) ?_
  refine l_arg (kv := nI 2) aL_433 rfl (hin 2 (by decide)) ?_
  refine l_arg (kv := nI 3) aL_438 rfl (hin 3 (by decide)) ?_
  refine l_callV (av := [.int (xs (i + nI 1).toNatClampNeg), .int (xs (i + nI 2).toNatClampNeg), .int (xs (i + nI 3).toNatClampNeg)]) (st := []) (bb := 0) (ci := 11) (c_X11_batch (xs (i + nI 1).toNatClampNeg) (xs (i + nI 2).toNatClampNeg) (xs (i + nI 3).toNatClampNeg) σ (r, σ1) h1) dL_443 kd_X11_batch wd_15_23 wd_16_0 wd_16_1 rfl rfl (by decide) rfl ⟨Nat.le_of_ble_eq_true rfl, Nat.le_of_ble_eq_true rfl, show cu + 20 ≤ 600000 from by omega, show su + 160 ≤ 7302250 from by omega⟩ (Nat.le_of_ble_eq_true rfl) ?_
  refine l_m dL_446 ?_
  refine l_arg (kv := nI 1) aL_447 rfl (hin 1 (by decide)) ?_
  refine l_arg (kv := nI 2) aL_452 rfl (hin 2 (by decide)) ?_
  refine l_arg (kv := nI 3) aL_457 rfl (hin 3 (by decide)) ?_
  refine l_callV (av := [.int (xs (i + nI 1).toNatClampNeg), .int (xs (i + nI 2).toNatClampNeg), .int (xs (i + nI 3).toNatClampNeg)]) (st := [.int r]) (bb := 57) (ci := 12) (c_X12_batch (xs (i + nI 1).toNatClampNeg) (xs (i + nI 2).toNatClampNeg) (xs (i + nI 3).toNatClampNeg) σ1 (r, σ2) h2) dL_462 kd_X12_batch wd_16_7 wd_16_8 wd_16_9 rfl rfl (by decide) rfl ⟨Nat.le_of_ble_eq_true rfl, Nat.le_of_ble_eq_true rfl, show cu + 20 + 0 ≤ 600000 from by omega, show su + 160 + 0 ≤ 7302250 from by omega⟩ (Nat.le_of_ble_eq_true rfl) ?_
  refine l_eq 1306 dL_465 rfl ?_
  exact l_widen (show cu + 20 + 0 ≤ cu + 20 from by omega) (show su + 160 + 0 ≤ su + 160 from by omega) (kk σ2 hI2)
set_option maxHeartbeats 1000000 in
theorem law_case_6 {i : Int32} {σ : aSt} {cu su b L : Nat} {xs : Nat → Int32} (hI : Inv σ) (hc : cu + 20 ≤ 600000) (hs : su + 160 ≤ 7302250) (hin : ∀ k, k ≤ 6 → vp_in (i + nI k) L) (kk : ∀ σ2, Inv σ2 → LW 1306 i [] σ2 (cu + 20) (su + 160) b L xs) : LW 470 i [] σ cu su b L xs := by
  obtain ⟨r, σ1, σ2, h1, h2, hI2⟩ := op_told hI (xs (i + nI 1).toNatClampNeg) (xs (i + nI 2).toNatClampNeg)
  refine l_x dL_470 ?_
  refine l_arg (kv := nI 1) aL_471 rfl (hin 1 (by decide)) ?_
  refine l_arg (kv := nI 2) aL_476 rfl (hin 2 (by decide)) ?_
  refine l_callV (av := [.int (xs (i + nI 1).toNatClampNeg), .int (xs (i + nI 2).toNatClampNeg)]) (st := []) (bb := 0) (ci := 11) (c_X11_told (xs (i + nI 1).toNatClampNeg) (xs (i + nI 2).toNatClampNeg) σ (r, σ1) h1) dL_481 kd_X11_told wd_16_12 wd_16_13 wd_16_14 rfl rfl (by decide) rfl ⟨Nat.le_of_ble_eq_true rfl, Nat.le_of_ble_eq_true rfl, show cu + 0 ≤ 600000 from by omega, show su + 0 ≤ 7302250 from by omega⟩ (Nat.le_of_ble_eq_true rfl) ?_
  refine l_m dL_484 ?_
  refine l_arg (kv := nI 1) aL_485 rfl (hin 1 (by decide)) ?_
  refine l_arg (kv := nI 2) aL_490 rfl (hin 2 (by decide)) ?_
  refine l_callV (av := [.int (xs (i + nI 1).toNatClampNeg), .int (xs (i + nI 2).toNatClampNeg)]) (st := [.int r]) (bb := 57) (ci := 12) (c_X12_told (xs (i + nI 1).toNatClampNeg) (xs (i + nI 2).toNatClampNeg) σ1 (r, σ2) h2) dL_495 kd_X12_told wd_16_22 wd_16_23 wd_17_0 rfl rfl (by decide) rfl ⟨Nat.le_of_ble_eq_true rfl, Nat.le_of_ble_eq_true rfl, show cu + 0 + 0 ≤ 600000 from by omega, show su + 0 + 0 ≤ 7302250 from by omega⟩ (Nat.le_of_ble_eq_true rfl) ?_
  refine l_eq 1306 dL_498 rfl ?_
  exact l_widen (show cu + 0 + 0 ≤ cu + 20 from by omega) (show su + 0 + 0 ≤ su + 160 from by omega) (kk σ2 hI2)
set_option maxHeartbeats 1000000 in
theorem law_case_7 {i : Int32} {σ : aSt} {cu su b L : Nat} {xs : Nat → Int32} (hI : Inv σ) (hc : cu + 20 ≤ 600000) (hs : su + 160 ≤ 7302250) (hin : ∀ k, k ≤ 6 → vp_in (i + nI k) L) (kk : ∀ σ2, Inv σ2 → LW 1306 i [] σ2 (cu + 20) (su + 160) b L xs) : LW 503 i [] σ cu su b L xs := by
  obtain ⟨r, σ1, σ2, h1, h2, hI2⟩ := op_order hI (xs (i + nI 1).toNatClampNeg)
  refine l_x dL_503 ?_
  refine l_arg (kv := nI 1) aL_504 rfl (hin 1 (by decide)) ?_
  refine l_callV (av := [.int (xs (i + nI 1).toNatClampNeg)]) (st := []) (bb := 0) (ci := 11) (c_X11_order (xs (i + nI 1).toNatClampNeg) σ (r, σ1) h1) dL_509 kd_X11_order wd_17_3 wd_17_4 wd_17_5 rfl rfl (by decide) rfl ⟨Nat.le_of_ble_eq_true rfl, Nat.le_of_ble_eq_true rfl, show cu + 0 ≤ 600000 from by omega, show su + 0 ≤ 7302250 from by omega⟩ (Nat.le_of_ble_eq_true rfl) ?_
  refine l_m dL_512 ?_
  refine l_arg (kv := nI 1) aL_513 rfl (hin 1 (by decide)) ?_
  refine l_callV (av := [.int (xs (i + nI 1).toNatClampNeg)]) (st := [.int r]) (bb := 57) (ci := 12) (c_X12_order (xs (i + nI 1).toNatClampNeg) σ1 (r, σ2) h2) dL_518 kd_X12_order wd_17_13 wd_17_14 wd_17_15 rfl rfl (by decide) rfl ⟨Nat.le_of_ble_eq_true rfl, Nat.le_of_ble_eq_true rfl, show cu + 0 + 0 ≤ 600000 from by omega, show su + 0 + 0 ≤ 7302250 from by omega⟩ (Nat.le_of_ble_eq_true rfl) ?_
  refine l_eq 1306 dL_521 rfl ?_
  exact l_widen (show cu + 0 + 0 ≤ cu + 20 from by omega) (show su + 0 + 0 ≤ su + 160 from by omega) (kk σ2 hI2)
set_option maxHeartbeats 1000000 in
theorem law_case_8 {i : Int32} {σ : aSt} {cu su b L : Nat} {xs : Nat → Int32} (hI : Inv σ) (hc : cu + 20 ≤ 600000) (hs : su + 160 ≤ 7302250) (hin : ∀ k, k ≤ 6 → vp_in (i + nI k) L) (kk : ∀ σ2, Inv σ2 → LW 1306 i [] σ2 (cu + 20) (su + 160) b L xs) : LW 526 i [] σ cu su b L xs := by
  obtain ⟨r, σ1, σ2, h1, h2, hI2⟩ := op_mark hI (xs (i + nI 1).toNatClampNeg) (xs (i + nI 2).toNatClampNeg)
  refine l_x dL_526 ?_
  refine l_arg (kv := nI 1) aL_527 rfl (hin 1 (by decide)) ?_
  refine l_arg (kv := nI 2) aL_532 rfl (hin 2 (by decide)) ?_
  refine l_callV (av := [.int (xs (i + nI 1).toNatClampNeg), .int (xs (i + nI 2).toNatClampNeg)]) (st := []) (bb := 0) (ci := 11) (c_X11_mark (xs (i + nI 1).toNatClampNeg) (xs (i + nI 2).toNatClampNeg) σ (r, σ1) h1) dL_537 kd_X11_mark wd_17_17 wd_17_18 wd_17_19 rfl rfl (by decide) rfl ⟨Nat.le_of_ble_eq_true rfl, Nat.le_of_ble_eq_true rfl, show cu + 0 ≤ 600000 from by omega, show su + 0 ≤ 7302250 from by omega⟩ (Nat.le_of_ble_eq_true rfl) ?_
  refine l_m dL_540 ?_
  refine l_arg (kv := nI 1) aL_541 rfl (hin 1 (by decide)) ?_
  refine l_arg (kv := nI 2) aL_546 rfl (hin 2 (by decide)) ?_
  refine l_callV (av := [.int (xs (i + nI 1).toNatClampNeg), .int (xs (i + nI 2).toNatClampNeg)]) (st := [.int r]) (bb := 57) (ci := 12) (c_X12_mark (xs (i + nI 1).toNatClampNeg) (xs (i + nI 2).toNatClampNeg) σ1 (r, σ2) h2) dL_551 kd_X12_mark wd_18_5 wd_18_6 wd_18_7 rfl rfl (by decide) rfl ⟨Nat.le_of_ble_eq_true rfl, Nat.le_of_ble_eq_true rfl, show cu + 0 + 0 ≤ 600000 from by omega, show su + 0 + 0 ≤ 7302250 from by omega⟩ (Nat.le_of_ble_eq_true rfl) ?_
  refine l_eq 1306 dL_554 rfl ?_
  exact l_widen (show cu + 0 + 0 ≤ cu + 20 from by omega) (show su + 0 + 0 ≤ su + 160 from by omega) (kk σ2 hI2)
set_option maxHeartbeats 1000000 in
theorem law_case_9 {i : Int32} {σ : aSt} {cu su b L : Nat} {xs : Nat → Int32} (hI : Inv σ) (hc : cu + 20 ≤ 600000) (hs : su + 160 ≤ 7302250) (hin : ∀ k, k ≤ 6 → vp_in (i + nI k) L) (kk : ∀ σ2, Inv σ2 → LW 1306 i [] σ2 (cu + 20) (su + 160) b L xs) : LW 559 i [] σ cu su b L xs := by
  obtain ⟨r, σ1, σ2, h1, h2, hI2⟩ := op_feature hI (xs (i + nI 1).toNatClampNeg) (xs (i + nI 2).toNatClampNeg) (xs (i + nI 3).toNatClampNeg)
  refine l_x dL_559 ?_
  refine l_arg (kv := nI 1) aL_560 rfl (hin 1 (by decide)) ?_
  refine l_arg (kv := nI 2) aL_565 rfl (hin 2 (by decide)) ?_
  refine l_arg (kv := nI 3) aL_570 rfl (hin 3 (by decide)) ?_
  refine l_callV (av := [.int (xs (i + nI 1).toNatClampNeg), .int (xs (i + nI 2).toNatClampNeg), .int (xs (i + nI 3).toNatClampNeg)]) (st := []) (bb := 0) (ci := 11) (c_X11_feature (xs (i + nI 1).toNatClampNeg) (xs (i + nI 2).toNatClampNeg) (xs (i + nI 3).toNatClampNeg) σ (r, σ1) h1) dL_575 kd_X11_feature wd_18_10 wd_18_11 wd_18_12 rfl rfl (by decide) rfl ⟨Nat.le_of_ble_eq_true rfl, Nat.le_of_ble_eq_true rfl, show cu + 0 ≤ 600000 from by omega, show su + 0 ≤ 7302250 from by omega⟩ (Nat.le_of_ble_eq_true rfl) ?_
  refine l_m dL_578 ?_
  refine l_arg (kv := nI 1) aL_579 rfl (hin 1 (by decide)) ?_
  refine l_arg (kv := nI 2) aL_584 rfl (hin 2 (by decide)) ?_
  refine l_arg (kv := nI 3) aL_589 rfl (hin 3 (by decide)) ?_
  refine l_callV (av := [.int (xs (i + nI 1).toNatClampNeg), .int (xs (i + nI 2).toNatClampNeg), .int (xs (i + nI 3).toNatClampNeg)]) (st := [.int r]) (bb := 57) (ci := 12) (c_X12_feature (xs (i + nI 1).toNatClampNeg) (xs (i + nI 2).toNatClampNeg) (xs (i + nI 3).toNatClampNeg) σ1 (r, σ2) h2) dL_594 kd_X12_feature wd_20_17 wd_20_18 wd_20_19 rfl rfl (by decide) rfl ⟨Nat.le_of_ble_eq_true rfl, Nat.le_of_ble_eq_true rfl, show cu + 0 + 0 ≤ 600000 from by omega, show su + 0 + 0 ≤ 7302250 from by omega⟩ (Nat.le_of_ble_eq_true rfl) ?_
  refine l_eq 1306 dL_597 rfl ?_
  exact l_widen (show cu + 0 + 0 ≤ cu + 20 from by omega) (show su + 0 + 0 ≤ su + 160 from by omega) (kk σ2 hI2)
set_option maxHeartbeats 1000000 in
theorem law_case_10 {i : Int32} {σ : aSt} {cu su b L : Nat} {xs : Nat → Int32} (hI : Inv σ) (hc : cu + 20 ≤ 600000) (hs : su + 160 ≤ 7302250) (hin : ∀ k, k ≤ 6 → vp_in (i + nI k) L) (kk : ∀ σ2, Inv σ2 → LW 1306 i [] σ2 (cu + 20) (su + 160) b L xs) : LW 602 i [] σ cu su b L xs := by
  obtain ⟨r, σ1, σ2, h1, h2, hI2⟩ := op_profile hI (xs (i + nI 1).toNatClampNeg) (xs (i + nI 2).toNatClampNeg)
  refine l_x dL_602 ?_
  refine l_arg (kv := nI 1) aL_603 rfl (hin 1 (by decide)) ?_
  refine l_arg (kv := nI 2) aL_608 rfl (hin 2 (by decide)) ?_
  refine l_callV (av := [.int (xs (i + nI 1).toNatClampNeg), .int (xs (i + nI 2).toNatClampNeg)]) (st := []) (bb := 0) (ci := 11) (c_X11_profile (xs (i + nI 1).toNatClampNeg) (xs (i + nI 2).toNatClampNeg) σ (r, σ1) h1) dL_613 kd_X11_profile wd_21_21 wd_21_22 wd_21_23 rfl rfl (by decide) rfl ⟨Nat.le_of_ble_eq_true rfl, Nat.le_of_ble_eq_true rfl, show cu + 0 ≤ 600000 from by omega, show su + 0 ≤ 7302250 from by omega⟩ (Nat.le_of_ble_eq_true rfl) ?_
  refine l_m dL_616 ?_
  refine l_arg (kv := nI 1) aL_617 rfl (hin 1 (by decide)) ?_
  refine l_arg (kv := nI 2) aL_622 rfl (hin 2 (by decide)) ?_
  refine l_callV (av := [.int (xs (i + nI 1).toNatClampNeg), .int (xs (i + nI 2).toNatClampNeg)]) (st := [.int r]) (bb := 57) (ci := 12) (c_X12_profile (xs (i + nI 1).toNatClampNeg) (xs (i + nI 2).toNatClampNeg) σ1 (r, σ2) h2) dL_627 kd_X12_profile wd_22_2 wd_22_3 wd_22_4 rfl rfl (by decide) rfl ⟨Nat.le_of_ble_eq_true rfl, Nat.le_of_ble_eq_true rfl, show cu + 0 + 0 ≤ 600000 from by omega, show su + 0 + 0 ≤ 7302250 from by omega⟩ (Nat.le_of_ble_eq_true rfl) ?_
  refine l_eq 1306 dL_630 rfl ?_
  exact l_widen (show cu + 0 + 0 ≤ cu + 20 from by omega) (show su + 0 + 0 ≤ su + 160 from by omega) (kk σ2 hI2)
