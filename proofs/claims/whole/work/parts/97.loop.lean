def lTg : List Nat := [180, 223, 266, 329, 352, 427, 470, 503, 526, 559, 602, 635, 698, 711, 724, 747, 790, 823, 846, 879, 902, 935, 969, 993, 1017, 1051, 1115, 1158, 1181, 1214, 1247, 1270, 1293]
theorem lTg_ok : ∀ j, j < 33 → ∃ off, (#[147, 190, 233, 296, 319, 394, 437, 470, 493, 526, 569, 602, 665, 678, 691, 714, 757, 790, 813, 846, 869, 902, 936, 960, 984, 1018, 1082, 1125, 1148, 1181, 1214, 1237, 1260] : Array Int)[j]? = some off ∧ (33 : Int) + off = ((lTg.getD j 0 : Nat) : Int) := by
  intro j hj
  match j, hj with
  | 0, _ => exact ⟨147, rfl, rfl⟩
  | 1, _ => exact ⟨190, rfl, rfl⟩
  | 2, _ => exact ⟨233, rfl, rfl⟩
  | 3, _ => exact ⟨296, rfl, rfl⟩
  | 4, _ => exact ⟨319, rfl, rfl⟩
  | 5, _ => exact ⟨394, rfl, rfl⟩
  | 6, _ => exact ⟨437, rfl, rfl⟩
  | 7, _ => exact ⟨470, rfl, rfl⟩
  | 8, _ => exact ⟨493, rfl, rfl⟩
  | 9, _ => exact ⟨526, rfl, rfl⟩
  | 10, _ => exact ⟨569, rfl, rfl⟩
  | 11, _ => exact ⟨602, rfl, rfl⟩
  | 12, _ => exact ⟨665, rfl, rfl⟩
  | 13, _ => exact ⟨678, rfl, rfl⟩
  | 14, _ => exact ⟨691, rfl, rfl⟩
  | 15, _ => exact ⟨714, rfl, rfl⟩
  | 16, _ => exact ⟨757, rfl, rfl⟩
  | 17, _ => exact ⟨790, rfl, rfl⟩
  | 18, _ => exact ⟨813, rfl, rfl⟩
  | 19, _ => exact ⟨846, rfl, rfl⟩
  | 20, _ => exact ⟨869, rfl, rfl⟩
  | 21, _ => exact ⟨902, rfl, rfl⟩
  | 22, _ => exact ⟨936, rfl, rfl⟩
  | 23, _ => exact ⟨960, rfl, rfl⟩
  | 24, _ => exact ⟨984, rfl, rfl⟩
  | 25, _ => exact ⟨1018, rfl, rfl⟩
  | 26, _ => exact ⟨1082, rfl, rfl⟩
  | 27, _ => exact ⟨1125, rfl, rfl⟩
  | 28, _ => exact ⟨1148, rfl, rfl⟩
  | 29, _ => exact ⟨1181, rfl, rfl⟩
  | 30, _ => exact ⟨1214, rfl, rfl⟩
  | 31, _ => exact ⟨1237, rfl, rfl⟩
  | 32, _ => exact ⟨1260, rfl, rfl⟩
  | n + 33, h => omega
section LWL
variable {i : Int32} {σ : aSt} {cu su b L : Nat} {xs : Nat → Int32}
theorem law_cases (hI : Inv σ) (hc : cu + 20 ≤ 600000) (hs : su + 160 ≤ 7302250) (hin : ∀ k, k ≤ 6 → vp_in (i + nI k) L) (kk : ∀ σ2, Inv σ2 → LW 1306 i [] σ2 (cu + 20) (su + 160) b L xs) (j : Nat) (hj : j < 33) : LW (lTg.getD j 0) i [] σ cu su b L xs := by
  match j, hj with
  | 0, _ => exact law_case_0 hI hc hs hin kk
  | 1, _ => exact law_case_1 hI hc hs hin kk
  | 2, _ => exact law_case_2 hI hc hs hin kk
  | 3, _ => exact law_case_3 hI hc hs hin kk
  | 4, _ => exact law_case_4 hI hc hs hin kk
  | 5, _ => exact law_case_5 hI hc hs hin kk
  | 6, _ => exact law_case_6 hI hc hs hin kk
  | 7, _ => exact law_case_7 hI hc hs hin kk
  | 8, _ => exact law_case_8 hI hc hs hin kk
  | 9, _ => exact law_case_9 hI hc hs hin kk
  | 10, _ => exact law_case_10 hI hc hs hin kk
  | 11, _ => exact law_case_11 hI hc hs hin kk
  | 12, _ => exact law_case_12 hI hc hs hin kk
  | 13, _ => exact law_case_13 hI hc hs hin kk
  | 14, _ => exact law_case_14 hI hc hs hin kk
  | 15, _ => exact law_case_15 hI hc hs hin kk
  | 16, _ => exact law_case_16 hI hc hs hin kk
  | 17, _ => exact law_case_17 hI hc hs hin kk
  | 18, _ => exact law_case_18 hI hc hs hin kk
  | 19, _ => exact law_case_19 hI hc hs hin kk
  | 20, _ => exact law_case_20 hI hc hs hin kk
  | 21, _ => exact law_case_21 hI hc hs hin kk
  | 22, _ => exact law_case_22 hI hc hs hin kk
  | 23, _ => exact law_case_23 hI hc hs hin kk
  | 24, _ => exact law_case_24 hI hc hs hin kk
  | 25, _ => exact law_case_25 hI hc hs hin kk
  | 26, _ => exact law_case_26 hI hc hs hin kk
  | 27, _ => exact law_case_27 hI hc hs hin kk
  | 28, _ => exact law_case_28 hI hc hs hin kk
  | 29, _ => exact law_case_29 hI hc hs hin kk
  | 30, _ => exact law_case_30 hI hc hs hin kk
  | 31, _ => exact law_case_31 hI hc hs hin kk
  | 32, _ => exact law_case_32 hI hc hs hin kk
  | n + 33, h => omega
theorem l_head (kt : nI L - 7 < i → LW 1312 i [] σ cu su b L xs) (kf : ¬ (nI L - 7 < i) → LW 27 i [] σ cu su b L xs) : LW 18 i [] σ cu su b L xs := by
  intro p l e s m below meth c Z H locs ls X hl hh
  refine lv_iload_n X.1.1 X.1.2.1 dL_18 rfl (lv_at hl 3 rfl) ?_
  refine lv_aload_n X.1.1 X.1.2.1 dL_19 rfl (lv_at hl 0 rfl) ?_
  refine va_slen X.1.1 X.1.2.1 X.2.2.1 X.2.2.2.1 X.2.1 hh.2.2.2.2 dL_20 ?_
  refine lv_bipush (v := 7) X.1.1 X.1.2.1 dL_21 rfl ?_
  refine lv_isub X.1.1 X.1.2.1 dL_23 ?_
  refine lv_icmp_gt (tgt := 1312) X.1.1 X.1.2.1 dL_24 rfl (fun h => ?_) (fun h => ?_)
  · exact kt h p l e s m below meth c Z H locs ls X hl hh
  · exact kf h p l e s m below meth c Z H locs ls X hl hh
theorem l_switch (hin : vp_in i L) (kt : ∀ j, j < 33 → LW (lTg.getD j 0) i [] σ cu su b L xs) (kd : LW 1306 i [] σ cu su b L xs) : LW 27 i [] σ cu su b L xs := by
  intro p l e s m below meth c Z H locs ls X hl hh
  refine lv_aload_n X.1.1 X.1.2.1 dL_27 rfl (lv_at hl 0 rfl) ?_
  refine lv_iload_n X.1.1 X.1.2.1 dL_28 rfl (lv_at hl 3 rfl) ?_
  refine va_sld X.1.1 X.1.2.1 X.2.2.1 X.2.2.2.1 X.2.1 hh.2.2.2.2 hin dL_29 ?_
  refine lv_bipush (v := 63) X.1.1 X.1.2.1 dL_30 rfl ?_
  refine lv_iand X.1.1 X.1.2.1 dL_32 ?_
  generalize xs i.toNatClampNeg &&& 63 = v
  by_cases h1 : v.toInt < 0 ∨ 32 < v.toInt
  · exact lv_tableOut (tgt := 1306) X.1.1 X.1.2.1 dL_33 h1 rfl (kd p l e s m below meth c Z H locs ls X hl hh)
  · have h2 : ¬ v.toInt < 0 := fun h => h1 (Or.inl h)
    have h3 : ¬ 32 < v.toInt := fun h => h1 (Or.inr h)
    have hj : (v.toInt - 0).toNat < 33 := by omega
    obtain ⟨off, ho, ht⟩ := lTg_ok _ hj
    exact lv_tableIn X.1.1 X.1.2.1 dL_33 h2 h3 ho ht (kt _ hj p l e s m below meth c Z H locs ls X hl hh)
theorem l_again (k : LW 18 (i + 7) [] σ cu su b L xs) : LW 1306 i [] σ cu su b L xs := by
  intro p l e s m below meth c Z H locs ls X hl hh
  refine lv_iinc (v := i + 7) (lv' := [(3, .int (i + 7)), (0, .ref b), (1, .ref (Z.1 + 0)), (2, .ref (Z.1 + 57))]) X.1.1 X.1.2.1 dL_1306 hl (k := 3) rfl rfl (by decide) rfl (fun ls hl => ?_)
  refine lv_goto (tgt := 18) X.1.1 X.1.2.1 dL_1309 rfl ?_
  exact k p l e s m below meth c Z H locs ls X (lv_sub hl [1, 2, 3, 0] rfl) hh
theorem l_end (hc : cu ≤ 600000) (hs : su ≤ 7302250) : LW 1312 i [] σ cu su b L xs := by
  intro p l e s m below meth c Z H locs ls X hl hh
  refine lv_iconst (v := 1) X.1.1 X.1.2.1 dL_1312 rfl ?_
  refine va_forget (fun q hq => ?_) ?_
  · have h9 := hh.2.2.2.2.2.2 q hq
    exact X.2.2.2.2 ▸ h9
  refine W.widen (k := 600000) (n := 7302250) hc hs ?_
  exact lw_ret X.1.1 X.1.2.1 X.1.2.2.1 X.1.2.2.2.2.2.2.1 dL_1313
end LWL
theorem law_out {L k : Nat} (hL : L ≤ 3584) (hk : k ≤ L) (h : ¬ (nI L - 7 < nI k)) : k + 7 ≤ L := by
  rcases Nat.lt_or_ge L (k + 7) with q | q
  · exfalso
    apply h
    have e : nI L - 7 < nI k ↔ (nI L - 7).toInt < (nI k).toInt := Int32.lt_iff_toInt_lt
    rw [e, nI_toInt (by omega)]
    have e2 : (nI L - 7).toInt = (L : Int) - 7 := by
      rw [Int32.toInt_sub, nI_toInt (by omega), show (7 : Int32).toInt = 7 from rfl]
      rw [Int.bmod_def]
      split <;> omega
    rw [e2]
    omega
  · exact q
theorem law_loop {b L : Nat} {xs : Nat → Int32} (hL : L ≤ 3584) : ∀ (n k : Nat) (σ : aSt) (cu su : Nat), k ≤ L → L + 1 ≤ k + n → Inv σ → cu + 20 * n ≤ 600000 → su + 160 * n ≤ 7302250 → LW 18 (nI k) [] σ cu su b L xs := by
  intro n
  induction n with
  | zero =>
    intro k σ cu su h1 h2
    omega
  | succ n ih =>
    intro k σ cu su hk hf hI hc hs
    refine l_head (fun _ => l_end (by omega) (by omega)) (fun h => ?_)
    have h7 := law_out hL hk h
    have hin : ∀ j, j ≤ 6 → vp_in (nI k + nI j) L := fun j hj => by
      rw [nI_add]
      exact vp_in_nI (by omega) (by omega)
    have hnext : ∀ σ2, Inv σ2 → LW 1306 (nI k) [] σ2 (cu + 20) (su + 160) b L xs := fun σ2 h2 => by
      refine l_again ?_
      have e : nI k + 7 = nI (k + 7) := nI_add k 7
      rw [e]
      exact ih (k + 7) σ2 (cu + 20) (su + 160) h7 (by omega) h2 (by omega) (by omega)
    refine l_switch (vp_in_nI (by omega) (by omega)) (fun j hj => law_cases hI (by omega) (by omega) hin hnext j hj) ?_
    exact l_widen (Nat.le_add_right cu 20) (Nat.le_add_right su 160) (hnext σ hI)
