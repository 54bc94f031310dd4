/-! ===== the words' constant: length and charAt ===== -/
theorem dJ0_length_8abf5_0 : decode cJ0_length_8abf5 0 = .ok (.aload_n 0, 1) := by decide +kernel
theorem dJ0_length_8abf5_1 : decode cJ0_length_8abf5 1 = .ok (.getfield 9, 3) := by decide +kernel
theorem dJ0_length_8abf5_4 : decode cJ0_length_8abf5 4 = .ok (.arraylength, 1) := by decide +kernel
theorem dJ0_length_8abf5_5 : decode cJ0_length_8abf5 5 = .ok (.aload_n 0, 1) := by decide +kernel
theorem dJ0_length_8abf5_6 : decode cJ0_length_8abf5 6 = .ok (.invokevirtual 335, 3) := by decide +kernel
theorem dJ0_length_8abf5_9 : decode cJ0_length_8abf5 9 = .ok (.ishr, 1) := by decide +kernel
theorem dJ0_length_8abf5_10 : decode cJ0_length_8abf5 10 = .ok (.ireturn, 1) := by decide +kernel
theorem dJ0_charAt_5068e_0 : decode cJ0_charAt_5068e 0 = .ok (.aload_n 0, 1) := by decide +kernel
theorem dJ0_charAt_5068e_1 : decode cJ0_charAt_5068e 1 = .ok (.invokevirtual 492, 3) := by decide +kernel
theorem dJ0_charAt_5068e_4 : decode cJ0_charAt_5068e 4 = .ok (.ifCond .eq 12, 3) := by decide +kernel
theorem dJ0_charAt_5068e_7 : decode cJ0_charAt_5068e 7 = .ok (.aload_n 0, 1) := by decide +kernel
theorem dJ0_charAt_5068e_8 : decode cJ0_charAt_5068e 8 = .ok (.getfield 9, 3) := by decide +kernel
theorem dJ0_charAt_5068e_11 : decode cJ0_charAt_5068e 11 = .ok (.iload_n 1, 1) := by decide +kernel
theorem dJ0_charAt_5068e_12 : decode cJ0_charAt_5068e 12 = .ok (.invokestatic 495, 3) := by decide +kernel
theorem dJ0_charAt_5068e_15 : decode cJ0_charAt_5068e 15 = .ok (.ireturn, 1) := by decide +kernel
theorem dJ0_charAt_5068e_16 : decode cJ0_charAt_5068e 16 = .ok (.aload_n 0, 1) := by decide +kernel
theorem dJ0_charAt_5068e_17 : decode cJ0_charAt_5068e 17 = .ok (.getfield 9, 3) := by decide +kernel
theorem dJ0_charAt_5068e_20 : decode cJ0_charAt_5068e 20 = .ok (.iload_n 1, 1) := by decide +kernel
theorem dJ0_charAt_5068e_21 : decode cJ0_charAt_5068e 21 = .ok (.invokestatic 498, 3) := by decide +kernel
theorem dJ0_charAt_5068e_24 : decode cJ0_charAt_5068e 24 = .ok (.ireturn, 1) := by decide +kernel
theorem dJ0_coder_7d493_0 : decode cJ0_coder_7d493 0 = .ok (.getstatic 38, 3) := by decide +kernel
theorem dJ0_coder_7d493_3 : decode cJ0_coder_7d493 3 = .ok (.ifCond .eq 10, 3) := by decide +kernel
theorem dJ0_coder_7d493_6 : decode cJ0_coder_7d493 6 = .ok (.aload_n 0, 1) := by decide +kernel
theorem dJ0_coder_7d493_7 : decode cJ0_coder_7d493 7 = .ok (.getfield 15, 3) := by decide +kernel
theorem dJ0_coder_7d493_10 : decode cJ0_coder_7d493 10 = .ok (.goto 4, 3) := by decide +kernel
theorem dJ0_coder_7d493_13 : decode cJ0_coder_7d493 13 = .ok (.iconst 1, 1) := by decide +kernel
theorem dJ0_coder_7d493_14 : decode cJ0_coder_7d493 14 = .ok (.ireturn, 1) := by decide +kernel
theorem dJ0_isLatin1_aae02_0 : decode cJ0_isLatin1_aae02 0 = .ok (.getstatic 38, 3) := by decide +kernel
theorem dJ0_isLatin1_aae02_3 : decode cJ0_isLatin1_aae02 3 = .ok (.ifCond .eq 14, 3) := by decide +kernel
theorem dJ0_isLatin1_aae02_6 : decode cJ0_isLatin1_aae02 6 = .ok (.aload_n 0, 1) := by decide +kernel
theorem dJ0_isLatin1_aae02_7 : decode cJ0_isLatin1_aae02 7 = .ok (.getfield 15, 3) := by decide +kernel
theorem dJ0_isLatin1_aae02_10 : decode cJ0_isLatin1_aae02 10 = .ok (.ifCond .ne 7, 3) := by decide +kernel
theorem dJ0_isLatin1_aae02_13 : decode cJ0_isLatin1_aae02 13 = .ok (.iconst 1, 1) := by decide +kernel
theorem dJ0_isLatin1_aae02_14 : decode cJ0_isLatin1_aae02 14 = .ok (.goto 4, 3) := by decide +kernel
theorem dJ0_isLatin1_aae02_17 : decode cJ0_isLatin1_aae02 17 = .ok (.iconst 0, 1) := by decide +kernel
theorem dJ0_isLatin1_aae02_18 : decode cJ0_isLatin1_aae02 18 = .ok (.ireturn, 1) := by decide +kernel
theorem dJ0_checkIndex_df160_0 : decode cJ0_checkIndex_df160 0 = .ok (.iload_n 0, 1) := by decide +kernel
theorem dJ0_checkIndex_df160_1 : decode cJ0_checkIndex_df160 1 = .ok (.iload_n 1, 1) := by decide +kernel
theorem dJ0_checkIndex_df160_2 : decode cJ0_checkIndex_df160 2 = .ok (.getstatic 1053, 3) := by decide +kernel
theorem dJ0_checkIndex_df160_5 : decode cJ0_checkIndex_df160 5 = .ok (.invokestatic 1059, 3) := by decide +kernel
theorem dJ0_checkIndex_df160_8 : decode cJ0_checkIndex_df160 8 = .ok (.pop, 1) := by decide +kernel
theorem dJ0_checkIndex_df160_9 : decode cJ0_checkIndex_df160 9 = .ok (.return_, 1) := by decide +kernel
theorem dJ1_charAt_3b067_0 : decode cJ1_charAt_3b067 0 = .ok (.iload_n 1, 1) := by decide +kernel
theorem dJ1_charAt_3b067_1 : decode cJ1_charAt_3b067 1 = .ok (.aload_n 0, 1) := by decide +kernel
theorem dJ1_charAt_3b067_2 : decode cJ1_charAt_3b067 2 = .ok (.arraylength, 1) := by decide +kernel
theorem dJ1_charAt_3b067_3 : decode cJ1_charAt_3b067 3 = .ok (.invokestatic 9, 3) := by decide +kernel
theorem dJ1_charAt_3b067_6 : decode cJ1_charAt_3b067 6 = .ok (.aload_n 0, 1) := by decide +kernel
theorem dJ1_charAt_3b067_7 : decode cJ1_charAt_3b067 7 = .ok (.iload_n 1, 1) := by decide +kernel
theorem dJ1_charAt_3b067_8 : decode cJ1_charAt_3b067 8 = .ok (.baload, 1) := by decide +kernel
theorem dJ1_charAt_3b067_9 : decode cJ1_charAt_3b067 9 = .ok (.sipush 255, 3) := by decide +kernel
theorem dJ1_charAt_3b067_12 : decode cJ1_charAt_3b067 12 = .ok (.iand, 1) := by decide +kernel
theorem dJ1_charAt_3b067_13 : decode cJ1_charAt_3b067 13 = .ok (.i2c, 1) := by decide +kernel
theorem dJ1_charAt_3b067_14 : decode cJ1_charAt_3b067 14 = .ok (.ireturn, 1) := by decide +kernel
theorem dJ3_checkIndex_8e157_0 : decode cJ3_checkIndex_8e157 0 = .ok (.iload_n 0, 1) := by decide +kernel
theorem dJ3_checkIndex_8e157_1 : decode cJ3_checkIndex_8e157 1 = .ok (.ifCond .lt 8, 3) := by decide +kernel
theorem dJ3_checkIndex_8e157_4 : decode cJ3_checkIndex_8e157 4 = .ok (.iload_n 0, 1) := by decide +kernel
theorem dJ3_checkIndex_8e157_5 : decode cJ3_checkIndex_8e157 5 = .ok (.iload_n 1, 1) := by decide +kernel
theorem dJ3_checkIndex_8e157_6 : decode cJ3_checkIndex_8e157 6 = .ok (.if_icmp .lt 10, 3) := by decide +kernel
theorem dJ3_checkIndex_8e157_9 : decode cJ3_checkIndex_8e157 9 = .ok (.aload_n 2, 1) := by decide +kernel
theorem dJ3_checkIndex_8e157_10 : decode cJ3_checkIndex_8e157 10 = .ok (.iload_n 0, 1) := by decide +kernel
theorem dJ3_checkIndex_8e157_11 : decode cJ3_checkIndex_8e157 11 = .ok (.iload_n 1, 1) := by decide +kernel
theorem dJ3_checkIndex_8e157_12 : decode cJ3_checkIndex_8e157 12 = .ok (.invokestatic 95, 3) := by decide +kernel
theorem dJ3_checkIndex_8e157_15 : decode cJ3_checkIndex_8e157 15 = .ok (.athrow, 1) := by decide +kernel
theorem dJ3_checkIndex_8e157_16 : decode cJ3_checkIndex_8e157 16 = .ok (.iload_n 0, 1) := by decide +kernel
theorem dJ3_checkIndex_8e157_17 : decode cJ3_checkIndex_8e157 17 = .ok (.ireturn, 1) := by decide +kernel
theorem wq_len_l : Cond.methodLink RX10 67 yJ0_length_8abf5 ∈ wsL_law := wI_r24 _ (List.mem_of_getElem? (i := 21) rfl)
theorem wq_len_i : Cond.instanceMethod yJ0_length_8abf5 ∈ wsL_law := wI_r24 _ (List.mem_of_getElem? (i := 22) rfl)
theorem wq_len_s : Cond.selects RJ0 yJ0_length_8abf5 yJ0_length_8abf5 ∈ wsL_law := wI_r24 _ (List.mem_of_getElem? (i := 23) rfl)
theorem wq_J0 : Cond.initialized RJ0 ∈ wsL_law := wI_r25 _ (List.mem_of_getElem? (i := 0) rfl)
theorem wq_len_c : Cond.code yJ0_length_8abf5 cJ0_length_8abf5 1 (some .int) ∈ wsL_law := wI_r25 _ (List.mem_of_getElem? (i := 1) rfl)
theorem wq_value : Cond.fieldLink RJ0 9 "java/lang/String" "value" "[B" ∈ wsL_law := wI_r25 _ (List.mem_of_getElem? (i := 2) rfl)
theorem wq_cod_l : Cond.methodLink RJ0 335 yJ0_coder_7d493 ∈ wsL_law := wI_r25 _ (List.mem_of_getElem? (i := 3) rfl)
theorem wq_cod_i : Cond.instanceMethod yJ0_coder_7d493 ∈ wsL_law := wI_r25 _ (List.mem_of_getElem? (i := 4) rfl)
theorem wq_cod_s : Cond.selects RJ0 yJ0_coder_7d493 yJ0_coder_7d493 ∈ wsL_law := wI_r25 _ (List.mem_of_getElem? (i := 5) rfl)
theorem wq_cod_c : Cond.code yJ0_coder_7d493 cJ0_coder_7d493 1 (some .byte) ∈ wsL_law := wI_r25 _ (List.mem_of_getElem? (i := 6) rfl)
theorem wq_comp : Cond.fieldLink RJ0 38 "java/lang/String" "COMPACT_STRINGS" "Z" ∈ wsL_law := wI_r25 _ (List.mem_of_getElem? (i := 7) rfl)
theorem wq_coder : Cond.fieldLink RJ0 15 "java/lang/String" "coder" "B" ∈ wsL_law := wI_r25 _ (List.mem_of_getElem? (i := 8) rfl)
theorem wq_ch_l : Cond.methodLink RX10 73 yJ0_charAt_5068e ∈ wsL_law := wI_r25 _ (List.mem_of_getElem? (i := 9) rfl)
theorem wq_ch_i : Cond.instanceMethod yJ0_charAt_5068e ∈ wsL_law := wI_r25 _ (List.mem_of_getElem? (i := 10) rfl)
theorem wq_ch_s : Cond.selects RJ0 yJ0_charAt_5068e yJ0_charAt_5068e ∈ wsL_law := wI_r25 _ (List.mem_of_getElem? (i := 11) rfl)
theorem wq_ch_c : Cond.code yJ0_charAt_5068e cJ0_charAt_5068e 2 (some .char) ∈ wsL_law := wI_r25 _ (List.mem_of_getElem? (i := 12) rfl)
theorem wq_la_l : Cond.methodLink RJ0 492 yJ0_isLatin1_aae02 ∈ wsL_law := wI_r25 _ (List.mem_of_getElem? (i := 13) rfl)
theorem wq_la_i : Cond.instanceMethod yJ0_isLatin1_aae02 ∈ wsL_law := wI_r25 _ (List.mem_of_getElem? (i := 14) rfl)
theorem wq_la_s : Cond.selects RJ0 yJ0_isLatin1_aae02 yJ0_isLatin1_aae02 ∈ wsL_law := wI_r25 _ (List.mem_of_getElem? (i := 15) rfl)
theorem wq_la_c : Cond.code yJ0_isLatin1_aae02 cJ0_isLatin1_aae02 1 (some .boolean) ∈ wsL_law := wI_r25 _ (List.mem_of_getElem? (i := 16) rfl)
theorem wq_c1_l : Cond.methodLink RJ0 495 yJ1_charAt_3b067 ∈ wsL_law := wI_r25 _ (List.mem_of_getElem? (i := 17) rfl)
theorem wq_c1_i : Cond.static yJ1_charAt_3b067 ∈ wsL_law := wI_r25 _ (List.mem_of_getElem? (i := 18) rfl)
theorem wq_J1 : Cond.initialized RJ1 ∈ wsL_law := wI_r25 _ (List.mem_of_getElem? (i := 19) rfl)
theorem wq_c1_c : Cond.code yJ1_charAt_3b067 cJ1_charAt_3b067 2 (some .char) ∈ wsL_law := wI_r25 _ (List.mem_of_getElem? (i := 20) rfl)
theorem wq_ck_l : Cond.methodLink RJ1 9 yJ0_checkIndex_df160 ∈ wsL_law := wI_r25 _ (List.mem_of_getElem? (i := 21) rfl)
theorem wq_ck_i : Cond.static yJ0_checkIndex_df160 ∈ wsL_law := wI_r25 _ (List.mem_of_getElem? (i := 22) rfl)
theorem wq_ck_c : Cond.code yJ0_checkIndex_df160 cJ0_checkIndex_df160 2 none ∈ wsL_law := wI_r25 _ (List.mem_of_getElem? (i := 23) rfl)
theorem wq_sio : Cond.fieldLink RJ0 1053 "jdk/internal/util/Preconditions" "SIOOBE_FORMATTER" "Ljava/util/function/BiFunction;" ∈ wsL_law := wI_r26 _ (List.mem_of_getElem? (i := 0) rfl)
theorem wq_c3_l : Cond.methodLink RJ0 1059 yJ3_checkIndex_8e157 ∈ wsL_law := wI_r26 _ (List.mem_of_getElem? (i := 1) rfl)
theorem wq_c3_i : Cond.static yJ3_checkIndex_8e157 ∈ wsL_law := wI_r26 _ (List.mem_of_getElem? (i := 2) rfl)
theorem wq_J3 : Cond.initialized RJ3 ∈ wsL_law := wI_r26 _ (List.mem_of_getElem? (i := 3) rfl)
theorem wq_c3_c : Cond.code yJ3_checkIndex_8e157 cJ3_checkIndex_8e157 3 (some .int) ∈ wsL_law := wI_r26 _ (List.mem_of_getElem? (i := 4) rfl)
abbrev mJ_coder : aM := (yJ0_coder_7d493, cJ0_coder_7d493, 1, some .byte, 2, 80, 0, 0)
abbrev mJ_isLatin1 : aM := (yJ0_isLatin1_aae02, cJ0_isLatin1_aae02, 1, some .boolean, 2, 80, 0, 0)
abbrev mJ_check3 : aM := (yJ3_checkIndex_8e157, cJ3_checkIndex_8e157, 3, some .int, 2, 80, 0, 0)
abbrev mJ_check0 : aM := (yJ0_checkIndex_df160, cJ0_checkIndex_df160, 2, none, 3, 102, 0, 0)
abbrev mJ_char1 : aM := (yJ1_charAt_3b067, cJ1_charAt_3b067, 2, some .char, 4, 123, 0, 0)
abbrev mJ_char0 : aM := (yJ0_charAt_5068e, cJ0_charAt_5068e, 2, some .char, 5, 144, 0, 0)
abbrev mJ_len : aM := (yJ0_length_8abf5, cJ0_length_8abf5, 1, some .int, 3, 100, 0, 0)
theorem kq_coder : aKd mJ_coder 0 := ⟨wq_cod_c, wq_J0, by decide, by decide, rfl⟩
theorem kq_isLatin1 : aKd mJ_isLatin1 0 := ⟨wq_la_c, wq_J0, by decide, by decide, rfl⟩
theorem kq_check3 : aKd mJ_check3 3 := ⟨wq_c3_c, wq_J3, by decide, by decide, rfl⟩
theorem kq_check0 : aKd mJ_check0 2 := ⟨wq_ck_c, wq_J0, by decide, by decide, rfl⟩
theorem kq_char1 : aKd mJ_char1 2 := ⟨wq_c1_c, wq_J1, by decide, by decide, rfl⟩
theorem kq_char0 : aKd mJ_char0 1 := ⟨wq_ch_c, wq_J0, by decide, by decide, rfl⟩
theorem kq_len : aKd mJ_len 0 := ⟨wq_len_c, wq_J0, by decide, by decide, rfl⟩
/-- a contract whose arguments may stand outside the cells that the law made -/
def BM (md : Bool) (M : aM) (av : aZ → List Value) (σ : aSt) (r : Option Value) (σ' : aSt) : Prop :=
  ∀ (l : Launch) (Z : aZ), Met l M.1 (aWd M) (aRm M) (va_Pc (av Z) (aWo md Z σ)) (aQ md Z r σ') M.2.2.2.2.2.2.1 M.2.2.2.2.2.2.2 (aA Z)
def BW (md : Bool) (M : aM) (pc : Nat) (lv : aZ → List (Nat × Value)) (st : aZ → List Value) (σ : aSt) (cu su : Nat) (r : Option Value) (σ' : aSt) : Prop :=
  ∀ (p : Program) (l : Launch) (e : Env) (s : State) (m : MethodId) (args : Array Value) (below : List Frame) (meth : Method) (c : Code) (Z : aZ) (H : Heap) (locs : List Loc) (ls : Array Slot),
    aF md M p s m args meth c Z → lv_has ls M.2.2.1 (lv Z) → aH md Z σ s H locs →
    W p l e (aRm M) s m args below meth c H locs cu su (MQ below (aQ md Z r σ') args s M.2.2.2.2.2.2.1 M.2.2.2.2.2.2.2 (aA Z)) (F0 m pc ls (st Z))
theorem BM_of {md : Bool} {M : aM} {av : aZ → List Value} {lv : aZ → List (Nat × Value)} {σ σ' : aSt} {r : Option Value} (hy : plainName M.1.cls = true) (hlv : ∀ Z, lv_args 0 (av Z) = lv Z) (hn : ∀ Z, (lg_sl (av Z)).length ≤ M.2.2.1) (h : BW md M 0 lv (fun _ => []) σ 0 0 r σ') : BM md M av σ r σ' := by
  intro l Z
  refine Met.ofW (cc := M.2.1) (maxL := M.2.2.1) (ret := M.2.2.2.1) (ws' := wsL_law) hy rfl ?_
  intro p e s m args below meth c s₁ B hml hv
  obtain ⟨rfl, q1, q2, qP, qD, qK, qN, qS⟩ := hv
  have hts := atoms_spec (ws := aWd M) B.pre
  have hl := lv_entry (av Z) (n := M.2.2.1) (hn Z)
  rw [lg_entry_eq]
  rw [hlv Z] at hl
  exact h p l e s m _ below meth c Z s.heap [] _ ⟨B.exec, B.bytes, B.returns, hml, findClass_of_methodNamed B.named, fun w hw => hts w (List.mem_cons_of_mem _ hw), B.notSynchronized, (name_of_methodNamed B.named B.method).1, by rw [q1]; exact Nat.le_add_right _ _, qK, qN, qS⟩ hl ⟨q1, q2, qP, qD, va_S.rf⟩
abbrev sKd (Z : aZ) : Nat := Z.2.2.2.1
abbrev sVd (Z : aZ) : Nat := Z.2.2.2.2
section SB
variable {md : Bool} {σ : aSt}
theorem b_coder : BM md mJ_coder (fun Z => [.ref (sKd Z)]) σ (some (.int 0)) σ := by
  refine BM_of (lv := fun Z => [(0, .ref (sKd Z))]) (by decide) (fun Z => rfl) (fun Z => Nat.le_of_ble_eq_true rfl) ?_
  intro p l e s m args below meth c Z H locs ls X hl hh
  have hts := X.2.2.2.2.2.1
  have hown := X.2.2.2.2.1
  obtain ⟨hR, hS, hC, -⟩ := X.2.2.2.2.2.2.2.2.2.2.2
  have hv := hh.2.2.2.2
  obtain ⟨s1, s2, s3, s4⟩ := hS.1 0 (by decide)
  refine va_gets X.1 X.2.1 hC hv hown (hts _ wq_comp) (fun x h => h) dJ0_coder_7d493_0 ?_
  refine lv_if_eq (tgt := 13) X.1 X.2.1 dJ0_coder_7d493_3 rfl (fun h => absurd h (by decide)) (fun _ => ?_)
  refine lv_aload_n X.1 X.2.1 dJ0_coder_7d493_6 rfl (lv_at hl 0 rfl) ?_
  refine vk_getf X.1 X.2.1 s2 hv hown (hts _ wq_coder) (fun x h => h) dJ0_coder_7d493_7 ?_
  refine lv_goto (tgt := 14) X.1 X.2.1 dJ0_coder_7d493_10 rfl ?_
  exact W.zret X.1 X.2.1 X.2.2.1 rfl (fun t ht hW => ⟨rfl, aWo.at X hh ht hW, hv.F ht⟩) hv.2.2 dJ0_coder_7d493_14 X.2.2.2.2.2.2.1
theorem b_isLatin1 : BM md mJ_isLatin1 (fun Z => [.ref (sKd Z)]) σ (some (.int 1)) σ := by
  refine BM_of (lv := fun Z => [(0, .ref (sKd Z))]) (by decide) (fun Z => rfl) (fun Z => Nat.le_of_ble_eq_true rfl) ?_
  intro p l e s m args below meth c Z H locs ls X hl hh
  have hts := X.2.2.2.2.2.1
  have hown := X.2.2.2.2.1
  obtain ⟨hR, hS, hC, -⟩ := X.2.2.2.2.2.2.2.2.2.2.2
  have hv := hh.2.2.2.2
  obtain ⟨s1, s2, s3, s4⟩ := hS.1 0 (by decide)
  refine va_gets X.1 X.2.1 hC hv hown (hts _ wq_comp) (fun x h => h) dJ0_isLatin1_aae02_0 ?_
  refine lv_if_eq (tgt := 17) X.1 X.2.1 dJ0_isLatin1_aae02_3 rfl (fun h => absurd h (by decide)) (fun _ => ?_)
  refine lv_aload_n X.1 X.2.1 dJ0_isLatin1_aae02_6 rfl (lv_at hl 0 rfl) ?_
  refine vk_getf X.1 X.2.1 s2 hv hown (hts _ wq_coder) (fun x h => h) dJ0_isLatin1_aae02_7 ?_
  refine lv_if_ne (tgt := 17) X.1 X.2.1 dJ0_isLatin1_aae02_10 rfl (fun h => absurd rfl h) (fun _ => ?_)
  refine lv_iconst X.1 X.2.1 dJ0_isLatin1_aae02_13 (v := 1) rfl ?_
  refine lv_goto (tgt := 18) X.1 X.2.1 dJ0_isLatin1_aae02_14 rfl ?_
  exact W.zret X.1 X.2.1 X.2.2.1 rfl (fun t ht hW => ⟨rfl, aWo.at X hh ht hW, hv.F ht⟩) hv.2.2 dJ0_isLatin1_aae02_18 X.2.2.2.2.2.2.1
theorem b_check3N {i : Nat} (hi : i < 119) : BM md mJ_check3 (fun Z => [.int (nI i), .int 119, .null]) σ (some (.int (nI i))) σ := by
  refine BM_of (lv := fun Z => [(0, .int (nI i)), (1, .int 119), (2, .null)]) (by decide) (fun Z => rfl) (fun Z => Nat.le_of_ble_eq_true rfl) ?_
  intro p l e s m args below meth c Z H locs ls X hl hh
  have hv := hh.2.2.2.2
  have i1 : ¬ nI i < 0 := nI_pos (by omega)
  have i2 : nI i < 119 := by rw [show (119 : Int32) = nI 119 from rfl, nI_ltI (by omega) (by omega)]; exact hi
  refine lv_iload_n X.1 X.2.1 dJ3_checkIndex_8e157_0 rfl (lv_at hl 0 rfl) ?_
  refine lv_if_lt (tgt := 9) X.1 X.2.1 dJ3_checkIndex_8e157_1 rfl (fun h => absurd h i1) (fun _ => ?_)
  refine lv_iload_n X.1 X.2.1 dJ3_checkIndex_8e157_4 rfl (lv_at hl 0 rfl) ?_
  refine lv_iload_n X.1 X.2.1 dJ3_checkIndex_8e157_5 rfl (lv_at hl 1 rfl) ?_
  refine lv_icmp_lt (tgt := 16) X.1 X.2.1 dJ3_checkIndex_8e157_6 rfl (fun _ => ?_) (fun h => absurd i2 h)
  refine lv_iload_n X.1 X.2.1 dJ3_checkIndex_8e157_16 rfl (lv_at hl 0 rfl) ?_
  exact W.iret X.1 X.2.1 X.2.2.1 (fun t ht hW => ⟨rfl, aWo.at X hh ht hW, hv.F ht⟩) hv.2.2 dJ3_checkIndex_8e157_17 X.2.2.2.2.2.2.1
theorem b_check3R (t : aZ → Nat) {i : Nat} (hi : i < 119) : BM md mJ_check3 (fun Z => [.int (nI i), .int 119, .ref (t Z)]) σ (some (.int (nI i))) σ := by
  refine BM_of (lv := fun Z => [(0, .int (nI i)), (1, .int 119), (2, .ref (t Z))]) (by decide) (fun Z => rfl) (fun Z => Nat.le_of_ble_eq_true rfl) ?_
  intro p l e s m args below meth c Z H locs ls X hl hh
  have hv := hh.2.2.2.2
  have i1 : ¬ nI i < 0 := nI_pos (by omega)
  have i2 : nI i < 119 := by rw [show (119 : Int32) = nI 119 from rfl, nI_ltI (by omega) (by omega)]; exact hi
  refine lv_iload_n X.1 X.2.1 dJ3_checkIndex_8e157_0 rfl (lv_at hl 0 rfl) ?_
  refine lv_if_lt (tgt := 9) X.1 X.2.1 dJ3_checkIndex_8e157_1 rfl (fun h => absurd h i1) (fun _ => ?_)
  refine lv_iload_n X.1 X.2.1 dJ3_checkIndex_8e157_4 rfl (lv_at hl 0 rfl) ?_
  refine lv_iload_n X.1 X.2.1 dJ3_checkIndex_8e157_5 rfl (lv_at hl 1 rfl) ?_
  refine lv_icmp_lt (tgt := 16) X.1 X.2.1 dJ3_checkIndex_8e157_6 rfl (fun _ => ?_) (fun h => absurd i2 h)
  refine lv_iload_n X.1 X.2.1 dJ3_checkIndex_8e157_16 rfl (lv_at hl 0 rfl) ?_
  exact W.iret X.1 X.2.1 X.2.2.1 (fun t ht hW => ⟨rfl, aWo.at X hh ht hW, hv.F ht⟩) hv.2.2 dJ3_checkIndex_8e157_17 X.2.2.2.2.2.2.1
section BCALL
variable {p : Program} {l : Launch} {e : Env} {s : State} {m : MethodId} {args : Array Value} {below : List Frame} {meth : Method} {c0 : Code} {Z : aZ} {H : Heap} {locs : List Loc} {ls : Array Slot} {M M2 : aM} {pc ix n b cu su : Nat} {av : aZ → List Value} {rest stk : List Value} {rv : Option Value} {σ1 : aSt} {Q : State → Prop}
theorem bw_callS (hM : BM md M2 av σ rv σ1) (X : aF md M p s m args meth c0 Z) (hl : ls.size = M.2.2.1) (hh : aH md Z σ s H locs) (hd : decode M.2.1 pc = .ok (.invokestatic ix, 3)) (hk : aKd M2 n) (w1 : Cond.methodLink M.1.cls ix M2.1 ∈ wsL_law) (w2 : Cond.static M2.1 ∈ wsL_law) (hn : (av Z).length = n) (hst : stk = (av Z).reverse ++ rest) (hfit : aFit M M2 cu su) (hcat : (rest.map fun v => v.category).sum ≤ 8)
    (kk : ∀ (H1 : Heap) (locs1 : List Loc), aH md Z σ1 s H1 locs1 → W p l e (aRm M) s m args below meth c0 H1 locs1 (cu + M2.2.2.2.2.2.2.1) (su + M2.2.2.2.2.2.2.2) Q (F0 m (pc + 3) ls ((rv.map (aTr Z)).toList ++ rest))) : W p l e (aRm M) s m args below meth c0 H locs cu su Q (F0 m pc ls stk) := by
  subst hst
  have hts := X.2.2.2.2.2.1
  obtain ⟨k1, k2, k3, k4, k5⟩ := hk
  obtain ⟨f1, f2, f3, f4⟩ := hfit
  refine aw_go (va_runS (As := av Z) (rest := rest) (n := n) ⟨X.1, X.2.1, X.2.2.2.1, X.2.2.2.2.1, hts⟩ (hM l Z) ⟨⟨rfl, rfl, f1, f2, pay_in hts (aGood k1), List.mem_cons_self, hts _ k1, hts _ k2, ⟨k3, k4⟩, fun sig h => ?_, hts _ w1⟩, hts _ w2⟩ ⟨aWo.blind, fun U hU hW => ⟨rfl, aWo.at X hh hU hW⟩⟩ rfl hn hl rfl (lv_room hcat) hd ⟨f3, f4⟩) hh.2.2.2.2 kk
  rw [h] at k5
  exact (Option.some.inj k5).symm
theorem bw_callK (hM : BM md M2 (fun Z => .ref (sKd Z) :: av Z) σ rv σ1) (X : aF md M p s m args meth c0 Z) (hl : ls.size = M.2.2.1) (hh : aH md Z σ s H locs) (hd : decode M.2.1 pc = .ok (.invokevirtual ix, 3)) (hk : aKd M2 n) (hj : M2.1.cls = "java/lang/String") (w1 : Cond.methodLink M.1.cls ix M2.1 ∈ wsL_law) (w2 : Cond.instanceMethod M2.1 ∈ wsL_law) (w3 : Cond.selects M2.1.cls M2.1 M2.1 ∈ wsL_law) (hn : (av Z).length = n) (hst : stk = (av Z).reverse ++ .ref (sKd Z) :: rest) (hfit : aFit M M2 cu su) (hcat : (rest.map fun v => v.category).sum ≤ 8)
    (kk : ∀ (H1 : Heap) (locs1 : List Loc), aH md Z σ1 s H1 locs1 → W p l e (aRm M) s m args below meth c0 H1 locs1 (cu + M2.2.2.2.2.2.2.1) (su + M2.2.2.2.2.2.2.2) Q (F0 m (pc + 3) ls ((rv.map (aTr Z)).toList ++ rest))) : W p l e (aRm M) s m args below meth c0 H locs cu su Q (F0 m pc ls stk) := by
  subst hst
  have hts := X.2.2.2.2.2.1
  obtain ⟨k1, k2, k3, k4, k5⟩ := hk
  obtain ⟨f1, f2, f3, f4⟩ := hfit
  obtain ⟨hR, hS, hC, -⟩ := X.2.2.2.2.2.2.2.2.2.2.2
  have hrec := vk_recv (i := 0) hS (by decide) hh.2.2.2.2
  rw [← hj] at hrec
  refine aw_go (va_runV (As := av Z) (b := sKd Z) (rest := rest) (C := M2.1.cls) (n := n) ⟨X.1, X.2.1, X.2.2.2.1, X.2.2.2.2.1, hts⟩ (hM l Z) ⟨⟨rfl, rfl, f1, f2, pay_in hts (aGood k1), List.mem_cons_self, hts _ k1, hts _ k2, ⟨k3, k4⟩, fun sig h => ?_, hts _ w1⟩, hts _ w2, hts _ w3⟩ ⟨aWo.blind, hrec, fun U hU hW => ⟨rfl, aWo.at X hh hU hW⟩⟩ rfl hn hl rfl (lv_room hcat) hd ⟨f3, f4⟩) hh.2.2.2.2 kk
  rw [h] at k5
  exact (Option.some.inj k5).symm
end BCALL
theorem fit_of {M M2 : aM} (h : (Nat.ble (M2.2.2.2.2.1 + 1) M.2.2.2.2.1 && Nat.ble (8 + (M2.2.2.1 + 11) + M2.2.2.2.2.2.1) M.2.2.2.2.2.1 && Nat.ble (0 + M2.2.2.2.2.2.2.1) M.2.2.2.2.2.2.1 && Nat.ble (0 + M2.2.2.2.2.2.2.2) M.2.2.2.2.2.2.2) = true) : aFit M M2 0 0 := by
  simp only [Bool.and_eq_true, Nat.ble_eq] at h
  exact ⟨h.1.1.1, h.1.1.2, h.1.2, h.2⟩
theorem b_check0 {i : Nat} (hi : i < 119) : BM md mJ_check0 (fun _ => [.int (nI i), .int 119]) σ none σ := by
  refine BM_of (lv := fun Z => [(0, .int (nI i)), (1, .int 119)]) (by decide) (fun Z => rfl) (fun Z => Nat.le_of_ble_eq_true rfl) ?_
  intro p l e s m args below meth c Z H locs ls X hl hh
  have hts := X.2.2.2.2.2.1
  have hown := X.2.2.2.2.1
  obtain ⟨hR, hS, hC, hq⟩ := X.2.2.2.2.2.2.2.2.2.2.2
  refine lv_iload_n X.1 X.2.1 dJ0_checkIndex_df160_0 rfl (lv_at hl 0 rfl) ?_
  refine lv_iload_n X.1 X.2.1 dJ0_checkIndex_df160_1 rfl (lv_at hl 1 rfl) ?_
  have fin : ∀ (H1 : Heap) (locs1 : List Loc), aH md Z σ s H1 locs1 → W p l e (aRm mJ_check0) s m args below meth c H1 locs1 0 0 (MQ below (aQ md Z none σ) args s 0 0 (aA Z)) (F0 m 8 ls [.int (nI i)]) := by
    intro H1 locs1 h1
    refine lv_pop X.1 X.2.1 dJ0_checkIndex_df160_8 rfl ?_
    exact W.vret X.1 X.2.1 X.2.2.1 (fun t ht hW => ⟨rfl, aWo.at X h1 ht hW, h1.2.2.2.2.F ht⟩) h1.2.2.2.2.2.2 dJ0_checkIndex_df160_9 X.2.2.2.2.2.2.1
  rcases hq with hq | ⟨t, hq⟩
  · refine va_gets X.1 X.2.1 hq hh.2.2.2.2 hown (hts _ wq_sio) (fun x h => h) dJ0_checkIndex_df160_2 ?_
    exact bw_callS (M := mJ_check0) (b_check3N hi) X hl.1 hh dJ0_checkIndex_df160_5 kq_check3 wq_c3_l wq_c3_i rfl rfl (fit_of rfl) (Nat.le_of_ble_eq_true rfl) fin
  · refine va_gets X.1 X.2.1 hq hh.2.2.2.2 hown (hts _ wq_sio) (fun x h => h) dJ0_checkIndex_df160_2 ?_
    exact bw_callS (M := mJ_check0) (b_check3R (fun _ => t) hi) X hl.1 hh dJ0_checkIndex_df160_5 kq_check3 wq_c3_l wq_c3_i rfl rfl (fit_of rfl) (Nat.le_of_ble_eq_true rfl) fin
theorem tb_all : ∀ i, i < 119 → (((aTxB.getD i 0 &&& 255).toUInt32 % 65536).toInt32 = aTxB.getD i 0) ∧ narrow .char (.int (aTxB.getD i 0)) = .int (aTxB.getD i 0) := by decide +kernel
theorem b_char1 {i : Nat} (hi : i < 119) : BM md mJ_char1 (fun Z => [.ref (sVd Z), .int (nI i)]) σ (some (.int (aTxB.getD i 0))) σ := by
  refine BM_of (lv := fun Z => [(0, .ref (sVd Z)), (1, .int (nI i))]) (by decide) (fun Z => rfl) (fun Z => Nat.le_of_ble_eq_true rfl) ?_
  intro p l e s m args below meth c Z H locs ls X hl hh
  obtain ⟨hR, hS, hC, hq⟩ := X.2.2.2.2.2.2.2.2.2.2.2
  obtain ⟨s1, s2, s3, s4⟩ := hS.1 0 (by decide)
  refine lv_iload_n X.1 X.2.1 dJ1_charAt_3b067_0 rfl (lv_at hl 1 rfl) ?_
  refine lv_aload_n X.1 X.2.1 dJ1_charAt_3b067_1 rfl (lv_at hl 0 rfl) ?_
  refine va_tlen X.1 X.2.1 s4 hh.2.2.2.2 (v := 119) rfl dJ1_charAt_3b067_2 ?_
  refine bw_callS (M := mJ_char1) (b_check0 hi) X hl.1 hh dJ1_charAt_3b067_3 kq_check0 wq_ck_l wq_ck_i rfl rfl (fit_of rfl) (Nat.le_of_ble_eq_true rfl) (fun H1 locs1 h1 => ?_)
  refine lv_aload_n X.1 X.2.1 dJ1_charAt_3b067_6 rfl (lv_at hl 0 rfl) ?_
  refine lv_iload_n X.1 X.2.1 dJ1_charAt_3b067_7 rfl (lv_at hl 1 rfl) ?_
  refine va_tb X.1 X.2.1 s4 h1.2.2.2.2 (show vp_in (nI i) 119 from vp_in_nI hi (by omega)) (v := .int (aTxB.getD i 0)) (by rw [nI_clamp (by omega)]; rfl) dJ1_charAt_3b067_8 ?_
  refine lv_sipush X.1 X.2.1 dJ1_charAt_3b067_9 (v := 255) rfl ?_
  refine lv_iand X.1 X.2.1 dJ1_charAt_3b067_12 ?_
  refine lv_i2c X.1 X.2.1 dJ1_charAt_3b067_13 (tb_all i hi).1 ?_
  exact W.zret X.1 X.2.1 X.2.2.1 (tb_all i hi).2 (fun t ht hW => ⟨rfl, aWo.at X h1 ht hW, h1.2.2.2.2.F ht⟩) h1.2.2.2.2.2.2 dJ1_charAt_3b067_14 X.2.2.2.2.2.2.1
theorem b_char0 {i : Nat} (hi : i < 119) : BM md mJ_char0 (fun Z => [.ref (sKd Z), .int (nI i)]) σ (some (.int (aTxB.getD i 0))) σ := by
  refine BM_of (lv := fun Z => [(0, .ref (sKd Z)), (1, .int (nI i))]) (by decide) (fun Z => rfl) (fun Z => Nat.le_of_ble_eq_true rfl) ?_
  intro p l e s m args below meth c Z H locs ls X hl hh
  have hts := X.2.2.2.2.2.1
  have hown := X.2.2.2.2.1
  obtain ⟨hR, hS, hC, hq⟩ := X.2.2.2.2.2.2.2.2.2.2.2
  obtain ⟨s1, s2, s3, s4⟩ := hS.1 0 (by decide)
  refine lv_aload_n X.1 X.2.1 dJ0_charAt_5068e_0 rfl (lv_at hl 0 rfl) ?_
  refine bw_callK (M := mJ_char0) (av := fun _ => []) b_isLatin1 X hl.1 hh dJ0_charAt_5068e_1 kq_isLatin1 rfl wq_la_l wq_la_i wq_la_s rfl rfl (fit_of rfl) (Nat.le_of_ble_eq_true rfl) (fun H1 locs1 h1 => ?_)
  refine lv_if_eq (tgt := 16) X.1 X.2.1 dJ0_charAt_5068e_4 rfl (fun h => absurd h (by decide)) (fun _ => ?_)
  refine lv_aload_n X.1 X.2.1 dJ0_charAt_5068e_7 rfl (lv_at hl 0 rfl) ?_
  refine vk_getf X.1 X.2.1 s3 h1.2.2.2.2 hown (hts _ wq_value) (fun x h => h) dJ0_charAt_5068e_8 ?_
  refine lv_iload_n X.1 X.2.1 dJ0_charAt_5068e_11 rfl (lv_at hl 1 rfl) ?_
  refine bw_callS (M := mJ_char0) (b_char1 hi) X hl.1 h1 dJ0_charAt_5068e_12 kq_char1 wq_c1_l wq_c1_i rfl rfl (fit_of rfl) (Nat.le_of_ble_eq_true rfl) (fun H2 locs2 h2 => ?_)
  exact W.zret X.1 X.2.1 X.2.2.1 (tb_all i hi).2 (fun t ht hW => ⟨rfl, aWo.at X h2 ht hW, h2.2.2.2.2.F ht⟩) h2.2.2.2.2.2.2 dJ0_charAt_5068e_15 X.2.2.2.2.2.2.1
theorem b_len : BM md mJ_len (fun Z => [.ref (sKd Z)]) σ (some (.int 119)) σ := by
  refine BM_of (lv := fun Z => [(0, .ref (sKd Z))]) (by decide) (fun Z => rfl) (fun Z => Nat.le_of_ble_eq_true rfl) ?_
  intro p l e s m args below meth c Z H locs ls X hl hh
  have hts := X.2.2.2.2.2.1
  have hown := X.2.2.2.2.1
  obtain ⟨hR, hS, hC, hq⟩ := X.2.2.2.2.2.2.2.2.2.2.2
  obtain ⟨s1, s2, s3, s4⟩ := hS.1 0 (by decide)
  refine lv_aload_n X.1 X.2.1 dJ0_length_8abf5_0 rfl (lv_at hl 0 rfl) ?_
  refine vk_getf X.1 X.2.1 s3 hh.2.2.2.2 hown (hts _ wq_value) (fun x h => h) dJ0_length_8abf5_1 ?_
  refine va_tlen X.1 X.2.1 s4 hh.2.2.2.2 (v := 119) rfl dJ0_length_8abf5_4 ?_
  refine lv_aload_n X.1 X.2.1 dJ0_length_8abf5_5 rfl (lv_at hl 0 rfl) ?_
  refine bw_callK (M := mJ_len) (av := fun _ => []) b_coder X hl.1 hh dJ0_length_8abf5_6 kq_coder rfl wq_cod_l wq_cod_i wq_cod_s rfl rfl (fit_of rfl) (Nat.le_of_ble_eq_true rfl) (fun H1 locs1 h1 => ?_)
  refine lv_ishr X.1 X.2.1 dJ0_length_8abf5_9 ?_
  exact W.iret X.1 X.2.1 X.2.2.1 (fun t ht hW => ⟨rfl, aWo.at X h1 ht hW, h1.2.2.2.2.F ht⟩) h1.2.2.2.2.2.2 dJ0_length_8abf5_10 X.2.2.2.2.2.2.1
end SB
section AWS
variable {md : Bool} {pc : Nat} {lv : List (Nat × Value)} {st : List Value} {σ σ' : aSt} {cu su : Nat} {r : Option Value}
theorem fit_str {M M2 : aM} (h1 : M2.2.2.2.2.1 + 1 ≤ 10) (h2 : 8 + (M2.2.2.1 + 11) + M2.2.2.2.2.2.1 ≤ 500) (h3 : M2.2.2.2.2.2.2.1 = 0) (h4 : M2.2.2.2.2.2.2.2 = 0) (hfr : 10 ≤ M.2.2.2.2.1) (hlo : 500 ≤ M.2.2.2.2.2.1) (hc : cu ≤ M.2.2.2.2.2.2.1) (hs : su ≤ M.2.2.2.2.2.2.2) : aFit M M2 cu su := ⟨by omega, by omega, by omega, by omega⟩
theorem w_strLen {M : aM} (hM : M.1.cls = RX10) (hd : decode M.2.1 pc = .ok (.ldc 65, 2)) (hd2 : decode M.2.1 (pc + 2) = .ok (.invokevirtual 67, 3)) (hfr : 10 ≤ M.2.2.2.2.1) (hlo : 500 ≤ M.2.2.2.2.2.1) (hcat : (st.map fun v => v.category).sum ≤ 8) (kk : AW md M (pc + 5) lv (.int 119 :: st) σ 0 0 r σ') : AW md M pc lv st σ 0 0 r σ' := by
  intro p l e s m args below meth c Z H locs ls X hl hh
  have hown := X.2.2.2.2.1
  rw [hM] at hown
  obtain ⟨hR, hS, hC, hq⟩ := X.2.2.2.2.2.2.2.2.2.2.2
  refine va_ldcS X.1 X.2.1 hown hR hd ?_
  refine bw_callK (av := fun _ => []) b_len X hl.1 hh hd2 kq_len rfl (by rw [hM]; exact wq_len_l) wq_len_i wq_len_s rfl rfl (fit_str (by decide) (by decide) rfl rfl hfr hlo (Nat.zero_le _) (Nat.zero_le _)) (by rw [aCat]; exact hcat) (fun H1 locs1 h1 => ?_)
  exact kk p l e s m args below meth c Z H1 locs1 ls X hl h1
theorem w_strChar1 {M : aM} {k1 k2 : Fin 4} {x y : Int32} (q1 q2 : Nat) (hM : M.1.cls = RX10) (hd : decode M.2.1 pc = .ok (.ldc 65, 2)) (hd1 : decode M.2.1 (pc + 2) = .ok (.iload_n k1, 1)) (hd2 : decode M.2.1 (pc + 3) = .ok (.iload_n k2, 1)) (hd3 : decode M.2.1 (pc + 4) = .ok (.iadd, 1)) (hd4 : decode M.2.1 (pc + 5) = .ok (.invokevirtual 73, 3)) (h1 : lv[q1]? = some ((k1 : Nat), .int x)) (h2 : lv[q2]? = some ((k2 : Nat), .int y)) (hin : inB (x + y) 119) (h0 : True = True) (hfr : 10 ≤ M.2.2.2.2.1) (hlo : 500 ≤ M.2.2.2.2.2.1) (hcat : (st.map fun v => v.category).sum ≤ 8) (kk : AW md M (pc + 8) lv (.int (aTxB.getD (x + y).toNatClampNeg 0) :: st) σ 0 0 r σ') : AW md M pc lv st σ 0 0 r σ' := by
  intro p l e s m args below meth c Z H locs ls X hl hh
  have hown := X.2.2.2.2.1
  rw [hM] at hown
  obtain ⟨hR, hS, hC, hq⟩ := X.2.2.2.2.2.2.2.2.2.2.2
  obtain ⟨i, hi, ei⟩ := ix_of hin
  refine va_ldcS X.1 X.2.1 hown hR hd ?_
  refine lv_iload_n X.1 X.2.1 hd1 rfl (lv_at hl q1 (aLv h1)) ?_
  refine lv_iload_n X.1 X.2.1 hd2 rfl (lv_at hl q2 (aLv h2)) ?_
  refine lv_iadd X.1 X.2.1 hd3 ?_
  rw [ei] at kk ⊢
  refine bw_callK (av := fun _ => [.int (nI i)]) (b_char0 hi) X hl.1 hh hd4 kq_char0 rfl (by rw [hM]; exact wq_ch_l) wq_ch_i wq_ch_s rfl rfl (fit_str (by decide) (by decide) rfl rfl hfr hlo (Nat.zero_le _) (Nat.zero_le _)) (by rw [aCat]; exact hcat) (fun H1 locs1 h1 => ?_)
  have := kk p l e s m args below meth c Z H1 locs1 ls X hl h1
  rw [ix_cl (by omega)] at this
  exact this
theorem w_strChar2 {M : aM} {k1 : Fin 4} {j : Nat} {x y : Int32} (q1 q2 : Nat) (hM : M.1.cls = RX10) (hd : decode M.2.1 pc = .ok (.ldc 65, 2)) (hd1 : decode M.2.1 (pc + 2) = .ok (.iload_n k1, 1)) (hd2 : decode M.2.1 (pc + 3) = .ok (.iload j, 2)) (hd3 : decode M.2.1 (pc + 5) = .ok (.iadd, 1)) (hd4 : decode M.2.1 (pc + 6) = .ok (.invokevirtual 73, 3)) (h1 : lv[q1]? = some ((k1 : Nat), .int x)) (h2 : lv[q2]? = some (j, .int y)) (hin : inB (x + y) 119) (h0 : True = True) (hfr : 10 ≤ M.2.2.2.2.1) (hlo : 500 ≤ M.2.2.2.2.2.1) (hcat : (st.map fun v => v.category).sum ≤ 8) (kk : AW md M (pc + 9) lv (.int (aTxB.getD (x + y).toNatClampNeg 0) :: st) σ 0 0 r σ') : AW md M pc lv st σ 0 0 r σ' := by
  intro p l e s m args below meth c Z H locs ls X hl hh
  have hown := X.2.2.2.2.1
  rw [hM] at hown
  obtain ⟨hR, hS, hC, hq⟩ := X.2.2.2.2.2.2.2.2.2.2.2
  obtain ⟨i, hi, ei⟩ := ix_of hin
  refine va_ldcS X.1 X.2.1 hown hR hd ?_
  refine lv_iload_n X.1 X.2.1 hd1 rfl (lv_at hl q1 (aLv h1)) ?_
  refine lv_iload X.1 X.2.1 hd2 (lv_at hl q2 (aLv h2)) ?_
  refine lv_iadd X.1 X.2.1 hd3 ?_
  rw [ei] at kk ⊢
  refine bw_callK (av := fun _ => [.int (nI i)]) (b_char0 hi) X hl.1 hh hd4 kq_char0 rfl (by rw [hM]; exact wq_ch_l) wq_ch_i wq_ch_s rfl rfl (fit_str (by decide) (by decide) rfl rfl hfr hlo (Nat.zero_le _) (Nat.zero_le _)) (by rw [aCat]; exact hcat) (fun H1 locs1 h1 => ?_)
  have := kk p l e s m args below meth c Z H1 locs1 ls X hl h1
  rw [ix_cl (by omega)] at this
  exact this
end AWS
