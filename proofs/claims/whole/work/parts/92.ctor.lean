theorem wd_1_9 : Cond.code yX11_init cX11_init 2 none ∈ wsL_law := wI_r1 _ (List.mem_of_getElem? (i := 9) rfl)
theorem wd_1_10 : Cond.methodLink RX11 1 objectInit ∈ wsL_law := wI_r1 _ (List.mem_of_getElem? (i := 10) rfl)
theorem wd_1_13 : Cond.classLink RX11 9 RX9 ∈ wsL_law := wI_r1 _ (List.mem_of_getElem? (i := 13) rfl)
theorem wd_1_15 : Cond.classLink RX11 15 RX3 ∈ wsL_law := wI_r1 _ (List.mem_of_getElem? (i := 15) rfl)
theorem wd_1_16 : Cond.instantiable RX3 4 ∈ wsL_law := wI_r1 _ (List.mem_of_getElem? (i := 16) rfl)
theorem wd_1_19 : Cond.classLink RX11 22 RX10 ∈ wsL_law := wI_r1 _ (List.mem_of_getElem? (i := 19) rfl)
theorem wd_1_20 : Cond.instantiable RX10 6 ∈ wsL_law := wI_r1 _ (List.mem_of_getElem? (i := 20) rfl)
theorem wd_1_23 : Cond.classLink RX11 29 RX6 ∈ wsL_law := wI_r1 _ (List.mem_of_getElem? (i := 23) rfl)
theorem wd_2_0 : Cond.instantiable RX6 7 ∈ wsL_law := wI_r2 _ (List.mem_of_getElem? (i := 0) rfl)
theorem wd_2_3 : Cond.classLink RX11 38 RX2 ∈ wsL_law := wI_r2 _ (List.mem_of_getElem? (i := 3) rfl)
theorem wd_2_4 : Cond.instantiable RX2 8 ∈ wsL_law := wI_r2 _ (List.mem_of_getElem? (i := 4) rfl)
theorem wd_2_7 : Cond.classLink RX11 47 RX5 ∈ wsL_law := wI_r2 _ (List.mem_of_getElem? (i := 7) rfl)
theorem wd_2_8 : Cond.instantiable RX5 13 ∈ wsL_law := wI_r2 _ (List.mem_of_getElem? (i := 8) rfl)
theorem wd_2_11 : Cond.classLink RX11 56 RX1 ∈ wsL_law := wI_r2 _ (List.mem_of_getElem? (i := 11) rfl)
theorem wd_2_12 : Cond.instantiable RX1 4 ∈ wsL_law := wI_r2 _ (List.mem_of_getElem? (i := 12) rfl)
theorem wd_2_15 : Cond.classLink RX11 63 RX0 ∈ wsL_law := wI_r2 _ (List.mem_of_getElem? (i := 15) rfl)
theorem wd_2_16 : Cond.instantiable RX0 5 ∈ wsL_law := wI_r2 _ (List.mem_of_getElem? (i := 16) rfl)
theorem wd_2_19 : Cond.classLink RX11 70 RX8 ∈ wsL_law := wI_r2 _ (List.mem_of_getElem? (i := 19) rfl)
theorem wd_2_20 : Cond.instantiable RX8 7 ∈ wsL_law := wI_r2 _ (List.mem_of_getElem? (i := 20) rfl)
theorem wd_3_1 : Cond.instantiable RX9 4 ∈ wsL_law := wI_r3 _ (List.mem_of_getElem? (i := 1) rfl)
theorem wd_3_3 : Cond.instanceMethod yX3_init ∈ wsL_law := wI_r3 _ (List.mem_of_getElem? (i := 3) rfl)
theorem wd_3_4 : Cond.code yX3_init cX3_init 1 none ∈ wsL_law := wI_r3 _ (List.mem_of_getElem? (i := 4) rfl)
theorem wd_3_5 : Cond.methodLink RX3 3 objectInit ∈ wsL_law := wI_r3 _ (List.mem_of_getElem? (i := 5) rfl)
theorem wd_3_6 : Cond.classLink RX3 9 RX4 ∈ wsL_law := wI_r3 _ (List.mem_of_getElem? (i := 6) rfl)
theorem wd_3_11 : Cond.instanceMethod yX10_init ∈ wsL_law := wI_r3 _ (List.mem_of_getElem? (i := 11) rfl)
theorem wd_3_12 : Cond.code yX10_init cX10_init 1 none ∈ wsL_law := wI_r3 _ (List.mem_of_getElem? (i := 12) rfl)
theorem wd_3_13 : Cond.methodLink RX10 1 objectInit ∈ wsL_law := wI_r3 _ (List.mem_of_getElem? (i := 13) rfl)
theorem wd_3_14 : Cond.arrayClass .int ∈ wsL_law := wI_r3 _ (List.mem_of_getElem? (i := 14) rfl)
theorem wd_3_19 : Cond.arrayClass .byte ∈ wsL_law := wI_r3 _ (List.mem_of_getElem? (i := 19) rfl)
theorem wd_3_22 : Cond.methodLink RX11 31 yX6_init ∈ wsL_law := wI_r3 _ (List.mem_of_getElem? (i := 22) rfl)
theorem wd_3_23 : Cond.instanceMethod yX6_init ∈ wsL_law := wI_r3 _ (List.mem_of_getElem? (i := 23) rfl)
theorem wd_4_0 : Cond.code yX6_init cX6_init 2 none ∈ wsL_law := wI_r4 _ (List.mem_of_getElem? (i := 0) rfl)
theorem wd_4_1 : Cond.methodLink RX6 3 objectInit ∈ wsL_law := wI_r4 _ (List.mem_of_getElem? (i := 1) rfl)
theorem wd_4_9 : Cond.methodLink RX11 40 yX2_init ∈ wsL_law := wI_r4 _ (List.mem_of_getElem? (i := 9) rfl)
theorem wd_4_10 : Cond.instanceMethod yX2_init ∈ wsL_law := wI_r4 _ (List.mem_of_getElem? (i := 10) rfl)
theorem wd_4_11 : Cond.code yX2_init cX2_init 2 none ∈ wsL_law := wI_r4 _ (List.mem_of_getElem? (i := 11) rfl)
theorem wd_4_12 : Cond.methodLink RX2 3 objectInit ∈ wsL_law := wI_r4 _ (List.mem_of_getElem? (i := 12) rfl)
theorem wd_4_13 : Cond.classLink RX2 9 RX8 ∈ wsL_law := wI_r4 _ (List.mem_of_getElem? (i := 13) rfl)
theorem wd_4_15 : Cond.classLink RX2 18 RX4 ∈ wsL_law := wI_r4 _ (List.mem_of_getElem? (i := 15) rfl)
theorem wd_4_18 : Cond.classLink RX2 28 RX7 ∈ wsL_law := wI_r4 _ (List.mem_of_getElem? (i := 18) rfl)
theorem wd_4_19 : Cond.instantiable RX7 7 ∈ wsL_law := wI_r4 _ (List.mem_of_getElem? (i := 19) rfl)
theorem wd_5_0 : Cond.arrayClass .long ∈ wsL_law := wI_r5 _ (List.mem_of_getElem? (i := 0) rfl)
theorem wd_5_3 : Cond.methodLink RX2 11 yX8_init ∈ wsL_law := wI_r5 _ (List.mem_of_getElem? (i := 3) rfl)
theorem wd_5_4 : Cond.instanceMethod yX8_init ∈ wsL_law := wI_r5 _ (List.mem_of_getElem? (i := 4) rfl)
theorem wd_5_5 : Cond.code yX8_init cX8_init 1 none ∈ wsL_law := wI_r5 _ (List.mem_of_getElem? (i := 5) rfl)
theorem wd_5_6 : Cond.methodLink RX8 3 objectInit ∈ wsL_law := wI_r5 _ (List.mem_of_getElem? (i := 6) rfl)
theorem wd_5_14 : Cond.methodLink RX8 34 yX8_clear ∈ wsL_law := wI_r5 _ (List.mem_of_getElem? (i := 14) rfl)
theorem wd_5_18 : Cond.instanceMethod yX7_init ∈ wsL_law := wI_r5 _ (List.mem_of_getElem? (i := 18) rfl)
theorem wd_5_19 : Cond.code yX7_init cX7_init 1 none ∈ wsL_law := wI_r5 _ (List.mem_of_getElem? (i := 19) rfl)
theorem wd_5_20 : Cond.methodLink RX7 3 objectInit ∈ wsL_law := wI_r5 _ (List.mem_of_getElem? (i := 20) rfl)
theorem wd_6_12 : Cond.methodLink RX11 49 yX5_init ∈ wsL_law := wI_r6 _ (List.mem_of_getElem? (i := 12) rfl)
theorem wd_6_13 : Cond.instanceMethod yX5_init ∈ wsL_law := wI_r6 _ (List.mem_of_getElem? (i := 13) rfl)
theorem wd_6_14 : Cond.code yX5_init cX5_init 3 none ∈ wsL_law := wI_r6 _ (List.mem_of_getElem? (i := 14) rfl)
theorem wd_6_15 : Cond.methodLink RX5 3 objectInit ∈ wsL_law := wI_r6 _ (List.mem_of_getElem? (i := 15) rfl)
theorem wd_7_5 : Cond.instanceMethod yX1_init ∈ wsL_law := wI_r7 _ (List.mem_of_getElem? (i := 5) rfl)
theorem wd_7_6 : Cond.code yX1_init cX1_init 1 none ∈ wsL_law := wI_r7 _ (List.mem_of_getElem? (i := 6) rfl)
theorem wd_7_7 : Cond.methodLink RX1 1 objectInit ∈ wsL_law := wI_r7 _ (List.mem_of_getElem? (i := 7) rfl)
theorem wd_7_12 : Cond.instanceMethod yX0_init ∈ wsL_law := wI_r7 _ (List.mem_of_getElem? (i := 12) rfl)
theorem wd_7_13 : Cond.code yX0_init cX0_init 1 none ∈ wsL_law := wI_r7 _ (List.mem_of_getElem? (i := 13) rfl)
theorem wd_7_14 : Cond.methodLink RX0 1 objectInit ∈ wsL_law := wI_r7 _ (List.mem_of_getElem? (i := 14) rfl)
theorem wd_7_20 : Cond.methodLink RX11 72 yX8_init ∈ wsL_law := wI_r7 _ (List.mem_of_getElem? (i := 20) rfl)
theorem wd_7_21 : Cond.instanceMethod yX9_init ∈ wsL_law := wI_r7 _ (List.mem_of_getElem? (i := 21) rfl)
theorem wd_7_22 : Cond.code yX9_init cX9_init 1 none ∈ wsL_law := wI_r7 _ (List.mem_of_getElem? (i := 22) rfl)
theorem wd_7_23 : Cond.methodLink RX9 3 objectInit ∈ wsL_law := wI_r7 _ (List.mem_of_getElem? (i := 23) rfl)
theorem wd_8_6 : Cond.code yX12_init cX12_init 1 none ∈ wsL_law := wI_r8 _ (List.mem_of_getElem? (i := 6) rfl)
theorem wd_8_7 : Cond.methodLink RX12 1 objectInit ∈ wsL_law := wI_r8 _ (List.mem_of_getElem? (i := 7) rfl)
theorem cl_RX11_9_0 : aCl false RX11 9 9 4 := ⟨RX9, TX9, tyX9, rfl, wI_X9, tyX9_ok, by decide, rfl, wd_1_13, wd_3_1, wd_3_2, by decide +kernel⟩
theorem cl_RX11_15_0 : aCl false RX11 15 3 4 := ⟨RX3, TX3, tyX3, rfl, wI_X3, tyX3_ok, by decide, rfl, wd_1_15, wd_1_16, wd_1_17, by decide +kernel⟩
theorem cl_RX11_22_0 : aCl false RX11 22 10 6 := ⟨RX10, TX10, tyX10, rfl, wI_X10, tyX10_ok, by decide, rfl, wd_1_19, wd_1_20, wd_1_21, by decide +kernel⟩
theorem cl_RX11_29_0 : aCl false RX11 29 6 7 := ⟨RX6, TX6, tyX6, rfl, wI_X6, tyX6_ok, by decide, rfl, wd_1_23, wd_2_0, wd_2_1, by decide +kernel⟩
theorem cl_RX11_38_0 : aCl false RX11 38 2 8 := ⟨RX2, TX2, tyX2, rfl, wI_X2, tyX2_ok, by decide, rfl, wd_2_3, wd_2_4, wd_2_5, by decide +kernel⟩
theorem cl_RX11_47_0 : aCl false RX11 47 5 13 := ⟨RX5, TX5, tyX5, rfl, wI_X5, tyX5_ok, by decide, rfl, wd_2_7, wd_2_8, wd_2_9, by decide +kernel⟩
theorem cl_RX11_56_0 : aCl false RX11 56 1 4 := ⟨RX1, TX1, tyX1, rfl, wI_X1, tyX1_ok, by decide, rfl, wd_2_11, wd_2_12, wd_2_13, by decide +kernel⟩
theorem cl_RX11_63_0 : aCl false RX11 63 0 5 := ⟨RX0, TX0, tyX0, rfl, wI_X0, tyX0_ok, by decide, rfl, wd_2_15, wd_2_16, wd_2_17, by decide +kernel⟩
theorem cl_RX11_70_0 : aCl false RX11 70 8 7 := ⟨RX8, TX8, tyX8, rfl, wI_X8, tyX8_ok, by decide, rfl, wd_2_19, wd_2_20, wd_2_21, by decide +kernel⟩
theorem cl_RX2_9_0 : aCl false RX2 9 8 7 := ⟨RX8, TX8, tyX8, rfl, wI_X8, tyX8_ok, by decide, rfl, wd_4_13, wd_2_20, wd_2_21, by decide +kernel⟩
theorem cl_RX2_28_0 : aCl false RX2 28 7 7 := ⟨RX7, TX7, tyX7, rfl, wI_X7, tyX7_ok, by decide, rfl, wd_4_18, wd_4_19, wd_4_20, by decide +kernel⟩
theorem dX3_init_0 : decode cX3_init 0 = .ok (.aload_n 0, 1) := by decide +kernel
theorem dX3_init_1 : decode cX3_init 1 = .ok (.invokespecial 3, 3) := by decide +kernel
theorem dX3_init_4 : decode cX3_init 4 = .ok (.aload_n 0, 1) := by decide +kernel
theorem dX3_init_5 : decode cX3_init 5 = .ok (.sipush 1000, 3) := by decide +kernel
theorem dX3_init_8 : decode cX3_init 8 = .ok (.anewarray 9, 3) := by decide +kernel
theorem dX3_init_11 : decode cX3_init 11 = .ok (.putfield 11, 3) := by decide +kernel
theorem dX3_init_14 : decode cX3_init 14 = .ok (.aload_n 0, 1) := by decide +kernel
theorem dX3_init_15 : decode cX3_init 15 = .ok (.bipush 120, 2) := by decide +kernel
theorem dX3_init_17 : decode cX3_init 17 = .ok (.anewarray 9, 3) := by decide +kernel
theorem dX3_init_20 : decode cX3_init 20 = .ok (.putfield 17, 3) := by decide +kernel
theorem dX3_init_23 : decode cX3_init 23 = .ok (.aload_n 0, 1) := by decide +kernel
theorem dX3_init_24 : decode cX3_init 24 = .ok (.iconst 0, 1) := by decide +kernel
theorem dX3_init_25 : decode cX3_init 25 = .ok (.putfield 20, 3) := by decide +kernel
theorem dX3_init_28 : decode cX3_init 28 = .ok (.aload_n 0, 1) := by decide +kernel
theorem dX3_init_29 : decode cX3_init 29 = .ok (.iconst 0, 1) := by decide +kernel
theorem dX3_init_30 : decode cX3_init 30 = .ok (.putfield 24, 3) := by decide +kernel
theorem dX3_init_33 : decode cX3_init 33 = .ok (.return_, 1) := by decide +kernel
theorem dX10_init_0 : decode cX10_init 0 = .ok (.aload_n 0, 1) := by decide +kernel
theorem dX10_init_1 : decode cX10_init 1 = .ok (.invokespecial 1, 3) := by decide +kernel
theorem dX10_init_4 : decode cX10_init 4 = .ok (.aload_n 0, 1) := by decide +kernel
theorem dX10_init_5 : decode cX10_init 5 = .ok (.sipush 601, 3) := by decide +kernel
theorem dX10_init_8 : decode cX10_init 8 = .ok (.newarray .int, 2) := by decide +kernel
theorem dX10_init_10 : decode cX10_init 10 = .ok (.putfield 9, 3) := by decide +kernel
theorem dX10_init_13 : decode cX10_init 13 = .ok (.aload_n 0, 1) := by decide +kernel
theorem dX10_init_14 : decode cX10_init 14 = .ok (.sipush 601, 3) := by decide +kernel
theorem dX10_init_17 : decode cX10_init 17 = .ok (.newarray .int, 2) := by decide +kernel
theorem dX10_init_19 : decode cX10_init 19 = .ok (.putfield 13, 3) := by decide +kernel
theorem dX10_init_22 : decode cX10_init 22 = .ok (.aload_n 0, 1) := by decide +kernel
theorem dX10_init_23 : decode cX10_init 23 = .ok (.sipush 601, 3) := by decide +kernel
theorem dX10_init_26 : decode cX10_init 26 = .ok (.newarray .int, 2) := by decide +kernel
theorem dX10_init_28 : decode cX10_init 28 = .ok (.putfield 16, 3) := by decide +kernel
theorem dX10_init_31 : decode cX10_init 31 = .ok (.aload_n 0, 1) := by decide +kernel
theorem dX10_init_32 : decode cX10_init 32 = .ok (.iconst 0, 1) := by decide +kernel
theorem dX10_init_33 : decode cX10_init 33 = .ok (.putfield 19, 3) := by decide +kernel
theorem dX10_init_36 : decode cX10_init 36 = .ok (.aload_n 0, 1) := by decide +kernel
theorem dX10_init_37 : decode cX10_init 37 = .ok (.sipush 600, 3) := by decide +kernel
theorem dX10_init_40 : decode cX10_init 40 = .ok (.newarray .byte, 2) := by decide +kernel
theorem dX10_init_42 : decode cX10_init 42 = .ok (.putfield 23, 3) := by decide +kernel
theorem dX10_init_45 : decode cX10_init 45 = .ok (.aload_n 0, 1) := by decide +kernel
theorem dX10_init_46 : decode cX10_init 46 = .ok (.iconst 0, 1) := by decide +kernel
theorem dX10_init_47 : decode cX10_init 47 = .ok (.putfield 27, 3) := by decide +kernel
theorem dX10_init_50 : decode cX10_init 50 = .ok (.return_, 1) := by decide +kernel
theorem dX6_init_0 : decode cX6_init 0 = .ok (.aload_n 0, 1) := by decide +kernel
theorem dX6_init_1 : decode cX6_init 1 = .ok (.invokespecial 3, 3) := by decide +kernel
theorem dX6_init_4 : decode cX6_init 4 = .ok (.aload_n 0, 1) := by decide +kernel
theorem dX6_init_5 : decode cX6_init 5 = .ok (.iconst 0, 1) := by decide +kernel
theorem dX6_init_6 : decode cX6_init 6 = .ok (.putfield 9, 3) := by decide +kernel
theorem dX6_init_9 : decode cX6_init 9 = .ok (.aload_n 0, 1) := by decide +kernel
theorem dX6_init_10 : decode cX6_init 10 = .ok (.iconst 0, 1) := by decide +kernel
theorem dX6_init_11 : decode cX6_init 11 = .ok (.putfield 15, 3) := by decide +kernel
theorem dX6_init_14 : decode cX6_init 14 = .ok (.aload_n 0, 1) := by decide +kernel
theorem dX6_init_15 : decode cX6_init 15 = .ok (.aconst_null, 1) := by decide +kernel
theorem dX6_init_16 : decode cX6_init 16 = .ok (.putfield 18, 3) := by decide +kernel
theorem dX6_init_19 : decode cX6_init 19 = .ok (.aload_n 0, 1) := by decide +kernel
theorem dX6_init_20 : decode cX6_init 20 = .ok (.iconst 0, 1) := by decide +kernel
theorem dX6_init_21 : decode cX6_init 21 = .ok (.putfield 22, 3) := by decide +kernel
theorem dX6_init_24 : decode cX6_init 24 = .ok (.aload_n 0, 1) := by decide +kernel
theorem dX6_init_25 : decode cX6_init 25 = .ok (.iconst 4, 1) := by decide +kernel
theorem dX6_init_26 : decode cX6_init 26 = .ok (.putfield 27, 3) := by decide +kernel
theorem dX6_init_29 : decode cX6_init 29 = .ok (.aload_n 0, 1) := by decide +kernel
theorem dX6_init_30 : decode cX6_init 30 = .ok (.iconst 0, 1) := by decide +kernel
theorem dX6_init_31 : decode cX6_init 31 = .ok (.putfield 30, 3) := by decide +kernel
theorem dX6_init_34 : decode cX6_init 34 = .ok (.aload_n 0, 1) := by decide +kernel
theorem dX6_init_35 : decode cX6_init 35 = .ok (.aload_n 1, 1) := by decide +kernel
theorem dX6_init_36 : decode cX6_init 36 = .ok (.putfield 33, 3) := by decide +kernel
theorem dX6_init_39 : decode cX6_init 39 = .ok (.return_, 1) := by decide +kernel
theorem dX8_init_0 : decode cX8_init 0 = .ok (.aload_n 0, 1) := by decide +kernel
theorem dX8_init_1 : decode cX8_init 1 = .ok (.invokespecial 3, 3) := by decide +kernel
theorem dX8_init_4 : decode cX8_init 4 = .ok (.aload_n 0, 1) := by decide +kernel
theorem dX8_init_5 : decode cX8_init 5 = .ok (.iconst 4, 1) := by decide +kernel
theorem dX8_init_6 : decode cX8_init 6 = .ok (.newarray .int, 2) := by decide +kernel
theorem dX8_init_8 : decode cX8_init 8 = .ok (.putfield 11, 3) := by decide +kernel
theorem dX8_init_11 : decode cX8_init 11 = .ok (.aload_n 0, 1) := by decide +kernel
theorem dX8_init_12 : decode cX8_init 12 = .ok (.iconst 0, 1) := by decide +kernel
theorem dX8_init_13 : decode cX8_init 13 = .ok (.putfield 15, 3) := by decide +kernel
theorem dX8_init_16 : decode cX8_init 16 = .ok (.aload_n 0, 1) := by decide +kernel
theorem dX8_init_17 : decode cX8_init 17 = .ok (.bipush 12, 2) := by decide +kernel
theorem dX8_init_19 : decode cX8_init 19 = .ok (.newarray .int, 2) := by decide +kernel
theorem dX8_init_21 : decode cX8_init 21 = .ok (.putfield 19, 3) := by decide +kernel
theorem dX8_init_24 : decode cX8_init 24 = .ok (.aload_n 0, 1) := by decide +kernel
theorem dX8_init_25 : decode cX8_init 25 = .ok (.bipush 12, 2) := by decide +kernel
theorem dX8_init_27 : decode cX8_init 27 = .ok (.newarray .int, 2) := by decide +kernel
theorem dX8_init_29 : decode cX8_init 29 = .ok (.putfield 22, 3) := by decide +kernel
theorem dX8_init_32 : decode cX8_init 32 = .ok (.aload_n 0, 1) := by decide +kernel
theorem dX8_init_33 : decode cX8_init 33 = .ok (.bipush 48, 2) := by decide +kernel
theorem dX8_init_35 : decode cX8_init 35 = .ok (.newarray .int, 2) := by decide +kernel
theorem dX8_init_37 : decode cX8_init 37 = .ok (.putfield 25, 3) := by decide +kernel
theorem dX8_init_40 : decode cX8_init 40 = .ok (.aload_n 0, 1) := by decide +kernel
theorem dX8_init_41 : decode cX8_init 41 = .ok (.bipush 48, 2) := by decide +kernel
theorem dX8_init_43 : decode cX8_init 43 = .ok (.newarray .int, 2) := by decide +kernel
theorem dX8_init_45 : decode cX8_init 45 = .ok (.putfield 28, 3) := by decide +kernel
theorem dX8_init_48 : decode cX8_init 48 = .ok (.aload_n 0, 1) := by decide +kernel
theorem dX8_init_49 : decode cX8_init 49 = .ok (.bipush 48, 2) := by decide +kernel
theorem dX8_init_51 : decode cX8_init 51 = .ok (.newarray .int, 2) := by decide +kernel
theorem dX8_init_53 : decode cX8_init 53 = .ok (.putfield 31, 3) := by decide +kernel
theorem dX8_init_56 : decode cX8_init 56 = .ok (.aload_n 0, 1) := by decide +kernel
theorem dX8_init_57 : decode cX8_init 57 = .ok (.invokevirtual 34, 3) := by decide +kernel
theorem dX8_init_60 : decode cX8_init 60 = .ok (.return_, 1) := by decide +kernel
theorem dX7_init_0 : decode cX7_init 0 = .ok (.aload_n 0, 1) := by decide +kernel
theorem dX7_init_1 : decode cX7_init 1 = .ok (.invokespecial 3, 3) := by decide +kernel
theorem dX7_init_4 : decode cX7_init 4 = .ok (.aload_n 0, 1) := by decide +kernel
theorem dX7_init_5 : decode cX7_init 5 = .ok (.bipush 10, 2) := by decide +kernel
theorem dX7_init_7 : decode cX7_init 7 = .ok (.newarray .int, 2) := by decide +kernel
theorem dX7_init_9 : decode cX7_init 9 = .ok (.putfield 11, 3) := by decide +kernel
theorem dX7_init_12 : decode cX7_init 12 = .ok (.aload_n 0, 1) := by decide +kernel
theorem dX7_init_13 : decode cX7_init 13 = .ok (.iconst 0, 1) := by decide +kernel
theorem dX7_init_14 : decode cX7_init 14 = .ok (.putfield 15, 3) := by decide +kernel
theorem dX7_init_17 : decode cX7_init 17 = .ok (.aload_n 0, 1) := by decide +kernel
theorem dX7_init_18 : decode cX7_init 18 = .ok (.bipush 20, 2) := by decide +kernel
theorem dX7_init_20 : decode cX7_init 20 = .ok (.newarray .int, 2) := by decide +kernel
theorem dX7_init_22 : decode cX7_init 22 = .ok (.putfield 19, 3) := by decide +kernel
theorem dX7_init_25 : decode cX7_init 25 = .ok (.aload_n 0, 1) := by decide +kernel
theorem dX7_init_26 : decode cX7_init 26 = .ok (.iconst 0, 1) := by decide +kernel
theorem dX7_init_27 : decode cX7_init 27 = .ok (.putfield 22, 3) := by decide +kernel
theorem dX7_init_30 : decode cX7_init 30 = .ok (.aload_n 0, 1) := by decide +kernel
theorem dX7_init_31 : decode cX7_init 31 = .ok (.iconst 0, 1) := by decide +kernel
theorem dX7_init_32 : decode cX7_init 32 = .ok (.putfield 25, 3) := by decide +kernel
theorem dX7_init_35 : decode cX7_init 35 = .ok (.aload_n 0, 1) := by decide +kernel
theorem dX7_init_36 : decode cX7_init 36 = .ok (.iconst 0, 1) := by decide +kernel
theorem dX7_init_37 : decode cX7_init 37 = .ok (.putfield 28, 3) := by decide +kernel
theorem dX7_init_40 : decode cX7_init 40 = .ok (.aload_n 0, 1) := by decide +kernel
theorem dX7_init_41 : decode cX7_init 41 = .ok (.iconst 0, 1) := by decide +kernel
theorem dX7_init_42 : decode cX7_init 42 = .ok (.putfield 31, 3) := by decide +kernel
theorem dX7_init_45 : decode cX7_init 45 = .ok (.return_, 1) := by decide +kernel
theorem dX2_init_0 : decode cX2_init 0 = .ok (.aload_n 0, 1) := by decide +kernel
theorem dX2_init_1 : decode cX2_init 1 = .ok (.invokespecial 3, 3) := by decide +kernel
theorem dX2_init_4 : decode cX2_init 4 = .ok (.aload_n 0, 1) := by decide +kernel
theorem dX2_init_5 : decode cX2_init 5 = .ok (.new 9, 3) := by decide +kernel
theorem dX2_init_8 : decode cX2_init 8 = .ok (.dup, 1) := by decide +kernel
theorem dX2_init_9 : decode cX2_init 9 = .ok (.invokespecial 11, 3) := by decide +kernel
theorem dX2_init_12 : decode cX2_init 12 = .ok (.putfield 12, 3) := by decide +kernel
theorem dX2_init_15 : decode cX2_init 15 = .ok (.aload_n 0, 1) := by decide +kernel
theorem dX2_init_16 : decode cX2_init 16 = .ok (.bipush 120, 2) := by decide +kernel
theorem dX2_init_18 : decode cX2_init 18 = .ok (.anewarray 18, 3) := by decide +kernel
theorem dX2_init_21 : decode cX2_init 21 = .ok (.putfield 20, 3) := by decide +kernel
theorem dX2_init_24 : decode cX2_init 24 = .ok (.aload_n 0, 1) := by decide +kernel
theorem dX2_init_25 : decode cX2_init 25 = .ok (.iconst 0, 1) := by decide +kernel
theorem dX2_init_26 : decode cX2_init 26 = .ok (.putfield 24, 3) := by decide +kernel
theorem dX2_init_29 : decode cX2_init 29 = .ok (.aload_n 0, 1) := by decide +kernel
theorem dX2_init_30 : decode cX2_init 30 = .ok (.new 28, 3) := by decide +kernel
theorem dX2_init_33 : decode cX2_init 33 = .ok (.dup, 1) := by decide +kernel
theorem dX2_init_34 : decode cX2_init 34 = .ok (.invokespecial 30, 3) := by decide +kernel
theorem dX2_init_37 : decode cX2_init 37 = .ok (.putfield 31, 3) := by decide +kernel
theorem dX2_init_40 : decode cX2_init 40 = .ok (.aload_n 0, 1) := by decide +kernel
theorem dX2_init_41 : decode cX2_init 41 = .ok (.sipush 240, 3) := by decide +kernel
theorem dX2_init_44 : decode cX2_init 44 = .ok (.newarray .int, 2) := by decide +kernel
theorem dX2_init_46 : decode cX2_init 46 = .ok (.putfield 35, 3) := by decide +kernel
theorem dX2_init_49 : decode cX2_init 49 = .ok (.aload_n 0, 1) := by decide +kernel
theorem dX2_init_50 : decode cX2_init 50 = .ok (.sipush 240, 3) := by decide +kernel
theorem dX2_init_53 : decode cX2_init 53 = .ok (.newarray .int, 2) := by decide +kernel
theorem dX2_init_55 : decode cX2_init 55 = .ok (.putfield 39, 3) := by decide +kernel
theorem dX2_init_58 : decode cX2_init 58 = .ok (.aload_n 0, 1) := by decide +kernel
theorem dX2_init_59 : decode cX2_init 59 = .ok (.bipush 120, 2) := by decide +kernel
theorem dX2_init_61 : decode cX2_init 61 = .ok (.newarray .long, 2) := by decide +kernel
theorem dX2_init_63 : decode cX2_init 63 = .ok (.putfield 42, 3) := by decide +kernel
theorem dX2_init_66 : decode cX2_init 66 = .ok (.aload_n 0, 1) := by decide +kernel
theorem dX2_init_67 : decode cX2_init 67 = .ok (.aload_n 1, 1) := by decide +kernel
theorem dX2_init_68 : decode cX2_init 68 = .ok (.putfield 46, 3) := by decide +kernel
theorem dX2_init_71 : decode cX2_init 71 = .ok (.aload_n 0, 1) := by decide +kernel
theorem dX2_init_72 : decode cX2_init 72 = .ok (.invokevirtual 50, 3) := by decide +kernel
theorem dX2_init_75 : decode cX2_init 75 = .ok (.return_, 1) := by decide +kernel
theorem dX5_init_0 : decode cX5_init 0 = .ok (.aload_n 0, 1) := by decide +kernel
theorem dX5_init_1 : decode cX5_init 1 = .ok (.invokespecial 3, 3) := by decide +kernel
theorem dX5_init_4 : decode cX5_init 4 = .ok (.aload_n 0, 1) := by decide +kernel
theorem dX5_init_5 : decode cX5_init 5 = .ok (.bipush 50, 2) := by decide +kernel
theorem dX5_init_7 : decode cX5_init 7 = .ok (.putfield 9, 3) := by decide +kernel
theorem dX5_init_10 : decode cX5_init 10 = .ok (.aload_n 0, 1) := by decide +kernel
theorem dX5_init_11 : decode cX5_init 11 = .ok (.iconst 5, 1) := by decide +kernel
theorem dX5_init_12 : decode cX5_init 12 = .ok (.putfield 15, 3) := by decide +kernel
theorem dX5_init_15 : decode cX5_init 15 = .ok (.aload_n 0, 1) := by decide +kernel
theorem dX5_init_16 : decode cX5_init 16 = .ok (.iconst 0, 1) := by decide +kernel
theorem dX5_init_17 : decode cX5_init 17 = .ok (.putfield 18, 3) := by decide +kernel
theorem dX5_init_20 : decode cX5_init 20 = .ok (.aload_n 0, 1) := by decide +kernel
theorem dX5_init_21 : decode cX5_init 21 = .ok (.iconst 0, 1) := by decide +kernel
theorem dX5_init_22 : decode cX5_init 22 = .ok (.putfield 21, 3) := by decide +kernel
theorem dX5_init_25 : decode cX5_init 25 = .ok (.aload_n 0, 1) := by decide +kernel
theorem dX5_init_26 : decode cX5_init 26 = .ok (.lconst 0, 1) := by decide +kernel
theorem dX5_init_27 : decode cX5_init 27 = .ok (.putfield 24, 3) := by decide +kernel
theorem dX5_init_30 : decode cX5_init 30 = .ok (.aload_n 0, 1) := by decide +kernel
theorem dX5_init_31 : decode cX5_init 31 = .ok (.bipush 120, 2) := by decide +kernel
theorem dX5_init_33 : decode cX5_init 33 = .ok (.newarray .int, 2) := by decide +kernel
theorem dX5_init_35 : decode cX5_init 35 = .ok (.putfield 28, 3) := by decide +kernel
theorem dX5_init_38 : decode cX5_init 38 = .ok (.aload_n 0, 1) := by decide +kernel
theorem dX5_init_39 : decode cX5_init 39 = .ok (.bipush 120, 2) := by decide +kernel
theorem dX5_init_41 : decode cX5_init 41 = .ok (.newarray .int, 2) := by decide +kernel
theorem dX5_init_43 : decode cX5_init 43 = .ok (.putfield 32, 3) := by decide +kernel
theorem dX5_init_46 : decode cX5_init 46 = .ok (.aload_n 0, 1) := by decide +kernel
theorem dX5_init_47 : decode cX5_init 47 = .ok (.iconst 0, 1) := by decide +kernel
theorem dX5_init_48 : decode cX5_init 48 = .ok (.putfield 35, 3) := by decide +kernel
theorem dX5_init_51 : decode cX5_init 51 = .ok (.aload_n 0, 1) := by decide +kernel
theorem dX5_init_52 : decode cX5_init 52 = .ok (.bipush 121, 2) := by decide +kernel
theorem dX5_init_54 : decode cX5_init 54 = .ok (.newarray .int, 2) := by decide +kernel
theorem dX5_init_56 : decode cX5_init 56 = .ok (.putfield 38, 3) := by decide +kernel
theorem dX5_init_59 : decode cX5_init 59 = .ok (.aload_n 0, 1) := by decide +kernel
theorem dX5_init_60 : decode cX5_init 60 = .ok (.iconst 0, 1) := by decide +kernel
theorem dX5_init_61 : decode cX5_init 61 = .ok (.putfield 41, 3) := by decide +kernel
theorem dX5_init_64 : decode cX5_init 64 = .ok (.aload_n 0, 1) := by decide +kernel
theorem dX5_init_65 : decode cX5_init 65 = .ok (.sipush 4096, 3) := by decide +kernel
theorem dX5_init_68 : decode cX5_init 68 = .ok (.newarray .int, 2) := by decide +kernel
theorem dX5_init_70 : decode cX5_init 70 = .ok (.putfield 46, 3) := by decide +kernel
theorem dX5_init_73 : decode cX5_init 73 = .ok (.aload_n 0, 1) := by decide +kernel
theorem dX5_init_74 : decode cX5_init 74 = .ok (.aload_n 1, 1) := by decide +kernel
theorem dX5_init_75 : decode cX5_init 75 = .ok (.putfield 49, 3) := by decide +kernel
theorem dX5_init_78 : decode cX5_init 78 = .ok (.aload_n 0, 1) := by decide +kernel
theorem dX5_init_79 : decode cX5_init 79 = .ok (.aload_n 2, 1) := by decide +kernel
theorem dX5_init_80 : decode cX5_init 80 = .ok (.putfield 53, 3) := by decide +kernel
theorem dX5_init_83 : decode cX5_init 83 = .ok (.return_, 1) := by decide +kernel
theorem dX1_init_0 : decode cX1_init 0 = .ok (.aload_n 0, 1) := by decide +kernel
theorem dX1_init_1 : decode cX1_init 1 = .ok (.invokespecial 1, 3) := by decide +kernel
theorem dX1_init_4 : decode cX1_init 4 = .ok (.aload_n 0, 1) := by decide +kernel
theorem dX1_init_5 : decode cX1_init 5 = .ok (.iconst 0, 1) := by decide +kernel
theorem dX1_init_6 : decode cX1_init 6 = .ok (.putfield 7, 3) := by decide +kernel
theorem dX1_init_9 : decode cX1_init 9 = .ok (.aload_n 0, 1) := by decide +kernel
theorem dX1_init_10 : decode cX1_init 10 = .ok (.iconst 0, 1) := by decide +kernel
theorem dX1_init_11 : decode cX1_init 11 = .ok (.putfield 13, 3) := by decide +kernel
theorem dX1_init_14 : decode cX1_init 14 = .ok (.aload_n 0, 1) := by decide +kernel
theorem dX1_init_15 : decode cX1_init 15 = .ok (.iconst 0, 1) := by decide +kernel
theorem dX1_init_16 : decode cX1_init 16 = .ok (.putfield 16, 3) := by decide +kernel
theorem dX1_init_19 : decode cX1_init 19 = .ok (.aload_n 0, 1) := by decide +kernel
theorem dX1_init_20 : decode cX1_init 20 = .ok (.iconst 0, 1) := by decide +kernel
theorem dX1_init_21 : decode cX1_init 21 = .ok (.putfield 19, 3) := by decide +kernel
theorem dX1_init_24 : decode cX1_init 24 = .ok (.return_, 1) := by decide +kernel
theorem dX0_init_0 : decode cX0_init 0 = .ok (.aload_n 0, 1) := by decide +kernel
theorem dX0_init_1 : decode cX0_init 1 = .ok (.invokespecial 1, 3) := by decide +kernel
theorem dX0_init_4 : decode cX0_init 4 = .ok (.aload_n 0, 1) := by decide +kernel
theorem dX0_init_5 : decode cX0_init 5 = .ok (.bipush 16, 2) := by decide +kernel
theorem dX0_init_7 : decode cX0_init 7 = .ok (.newarray .int, 2) := by decide +kernel
theorem dX0_init_9 : decode cX0_init 9 = .ok (.putfield 9, 3) := by decide +kernel
theorem dX0_init_12 : decode cX0_init 12 = .ok (.aload_n 0, 1) := by decide +kernel
theorem dX0_init_13 : decode cX0_init 13 = .ok (.iconst 0, 1) := by decide +kernel
theorem dX0_init_14 : decode cX0_init 14 = .ok (.putfield 13, 3) := by decide +kernel
theorem dX0_init_17 : decode cX0_init 17 = .ok (.aload_n 0, 1) := by decide +kernel
theorem dX0_init_18 : decode cX0_init 18 = .ok (.aconst_null, 1) := by decide +kernel
theorem dX0_init_19 : decode cX0_init 19 = .ok (.putfield 17, 3) := by decide +kernel
theorem dX0_init_22 : decode cX0_init 22 = .ok (.aload_n 0, 1) := by decide +kernel
theorem dX0_init_23 : decode cX0_init 23 = .ok (.iconst 0, 1) := by decide +kernel
theorem dX0_init_24 : decode cX0_init 24 = .ok (.putfield 21, 3) := by decide +kernel
theorem dX0_init_27 : decode cX0_init 27 = .ok (.aload_n 0, 1) := by decide +kernel
theorem dX0_init_28 : decode cX0_init 28 = .ok (.iconst 0, 1) := by decide +kernel
theorem dX0_init_29 : decode cX0_init 29 = .ok (.putfield 24, 3) := by decide +kernel
theorem dX0_init_32 : decode cX0_init 32 = .ok (.return_, 1) := by decide +kernel
theorem dX9_init_0 : decode cX9_init 0 = .ok (.aload_n 0, 1) := by decide +kernel
theorem dX9_init_1 : decode cX9_init 1 = .ok (.invokespecial 3, 3) := by decide +kernel
theorem dX9_init_4 : decode cX9_init 4 = .ok (.aload_n 0, 1) := by decide +kernel
theorem dX9_init_5 : decode cX9_init 5 = .ok (.bipush 120, 2) := by decide +kernel
theorem dX9_init_7 : decode cX9_init 7 = .ok (.newarray .int, 2) := by decide +kernel
theorem dX9_init_9 : decode cX9_init 9 = .ok (.putfield 9, 3) := by decide +kernel
theorem dX9_init_12 : decode cX9_init 12 = .ok (.aload_n 0, 1) := by decide +kernel
theorem dX9_init_13 : decode cX9_init 13 = .ok (.iconst 0, 1) := by decide +kernel
theorem dX9_init_14 : decode cX9_init 14 = .ok (.putfield 15, 3) := by decide +kernel
theorem dX9_init_17 : decode cX9_init 17 = .ok (.aload_n 0, 1) := by decide +kernel
theorem dX9_init_18 : decode cX9_init 18 = .ok (.iconst 0, 1) := by decide +kernel
theorem dX9_init_19 : decode cX9_init 19 = .ok (.putfield 19, 3) := by decide +kernel
theorem dX9_init_22 : decode cX9_init 22 = .ok (.aload_n 0, 1) := by decide +kernel
theorem dX9_init_23 : decode cX9_init 23 = .ok (.iconst 0, 1) := by decide +kernel
theorem dX9_init_24 : decode cX9_init 24 = .ok (.putfield 23, 3) := by decide +kernel
theorem dX9_init_27 : decode cX9_init 27 = .ok (.return_, 1) := by decide +kernel
theorem dX11_init_0 : decode cX11_init 0 = .ok (.aload_n 0, 1) := by decide +kernel
theorem dX11_init_1 : decode cX11_init 1 = .ok (.invokespecial 1, 3) := by decide +kernel
theorem dX11_init_4 : decode cX11_init 4 = .ok (.aload_n 0, 1) := by decide +kernel
theorem dX11_init_5 : decode cX11_init 5 = .ok (.bipush 8, 2) := by decide +kernel
theorem dX11_init_7 : decode cX11_init 7 = .ok (.anewarray 9, 3) := by decide +kernel
theorem dX11_init_10 : decode cX11_init 10 = .ok (.putfield 11, 3) := by decide +kernel
theorem dX11_init_13 : decode cX11_init 13 = .ok (.aload_n 0, 1) := by decide +kernel
theorem dX11_init_14 : decode cX11_init 14 = .ok (.new 15, 3) := by decide +kernel
theorem dX11_init_17 : decode cX11_init 17 = .ok (.dup, 1) := by decide +kernel
theorem dX11_init_18 : decode cX11_init 18 = .ok (.invokespecial 17, 3) := by decide +kernel
theorem dX11_init_21 : decode cX11_init 21 = .ok (.putfield 18, 3) := by decide +kernel
theorem dX11_init_24 : decode cX11_init 24 = .ok (.aload_n 0, 1) := by decide +kernel
theorem dX11_init_25 : decode cX11_init 25 = .ok (.new 22, 3) := by decide +kernel
theorem dX11_init_28 : decode cX11_init 28 = .ok (.dup, 1) := by decide +kernel
theorem dX11_init_29 : decode cX11_init 29 = .ok (.invokespecial 24, 3) := by decide +kernel
theorem dX11_init_32 : decode cX11_init 32 = .ok (.putfield 25, 3) := by decide +kernel
theorem dX11_init_35 : decode cX11_init 35 = .ok (.aload_n 0, 1) := by decide +kernel
theorem dX11_init_36 : decode cX11_init 36 = .ok (.new 29, 3) := by decide +kernel
theorem dX11_init_39 : decode cX11_init 39 = .ok (.dup, 1) := by decide +kernel
theorem dX11_init_40 : decode cX11_init 40 = .ok (.aload_n 0, 1) := by decide +kernel
theorem dX11_init_41 : decode cX11_init 41 = .ok (.getfield 25, 3) := by decide +kernel
theorem dX11_init_44 : decode cX11_init 44 = .ok (.invokespecial 31, 3) := by decide +kernel
theorem dX11_init_47 : decode cX11_init 47 = .ok (.putfield 34, 3) := by decide +kernel
theorem dX11_init_50 : decode cX11_init 50 = .ok (.aload_n 0, 1) := by decide +kernel
theorem dX11_init_51 : decode cX11_init 51 = .ok (.new 38, 3) := by decide +kernel
theorem dX11_init_54 : decode cX11_init 54 = .ok (.dup, 1) := by decide +kernel
theorem dX11_init_55 : decode cX11_init 55 = .ok (.aload_n 0, 1) := by decide +kernel
theorem dX11_init_56 : decode cX11_init 56 = .ok (.getfield 18, 3) := by decide +kernel
theorem dX11_init_59 : decode cX11_init 59 = .ok (.invokespecial 40, 3) := by decide +kernel
theorem dX11_init_62 : decode cX11_init 62 = .ok (.putfield 43, 3) := by decide +kernel
theorem dX11_init_65 : decode cX11_init 65 = .ok (.aload_n 0, 1) := by decide +kernel
theorem dX11_init_66 : decode cX11_init 66 = .ok (.new 47, 3) := by decide +kernel
theorem dX11_init_69 : decode cX11_init 69 = .ok (.dup, 1) := by decide +kernel
theorem dX11_init_70 : decode cX11_init 70 = .ok (.aload_n 0, 1) := by decide +kernel
theorem dX11_init_71 : decode cX11_init 71 = .ok (.getfield 18, 3) := by decide +kernel
theorem dX11_init_74 : decode cX11_init 74 = .ok (.aload_n 0, 1) := by decide +kernel
theorem dX11_init_75 : decode cX11_init 75 = .ok (.getfield 43, 3) := by decide +kernel
theorem dX11_init_78 : decode cX11_init 78 = .ok (.invokespecial 49, 3) := by decide +kernel
theorem dX11_init_81 : decode cX11_init 81 = .ok (.putfield 52, 3) := by decide +kernel
theorem dX11_init_84 : decode cX11_init 84 = .ok (.aload_n 0, 1) := by decide +kernel
theorem dX11_init_85 : decode cX11_init 85 = .ok (.new 56, 3) := by decide +kernel
theorem dX11_init_88 : decode cX11_init 88 = .ok (.dup, 1) := by decide +kernel
theorem dX11_init_89 : decode cX11_init 89 = .ok (.invokespecial 58, 3) := by decide +kernel
theorem dX11_init_92 : decode cX11_init 92 = .ok (.putfield 59, 3) := by decide +kernel
theorem dX11_init_95 : decode cX11_init 95 = .ok (.aload_n 0, 1) := by decide +kernel
theorem dX11_init_96 : decode cX11_init 96 = .ok (.new 63, 3) := by decide +kernel
theorem dX11_init_99 : decode cX11_init 99 = .ok (.dup, 1) := by decide +kernel
theorem dX11_init_100 : decode cX11_init 100 = .ok (.invokespecial 65, 3) := by decide +kernel
theorem dX11_init_103 : decode cX11_init 103 = .ok (.putfield 66, 3) := by decide +kernel
theorem dX11_init_106 : decode cX11_init 106 = .ok (.aload_n 0, 1) := by decide +kernel
theorem dX11_init_107 : decode cX11_init 107 = .ok (.new 70, 3) := by decide +kernel
theorem dX11_init_110 : decode cX11_init 110 = .ok (.dup, 1) := by decide +kernel
theorem dX11_init_111 : decode cX11_init 111 = .ok (.invokespecial 72, 3) := by decide +kernel
theorem dX11_init_114 : decode cX11_init 114 = .ok (.putfield 73, 3) := by decide +kernel
theorem dX11_init_117 : decode cX11_init 117 = .ok (.aload_n 0, 1) := by decide +kernel
theorem dX11_init_118 : decode cX11_init 118 = .ok (.iconst 0, 1) := by decide +kernel
theorem dX11_init_119 : decode cX11_init 119 = .ok (.putfield 77, 3) := by decide +kernel
theorem dX11_init_122 : decode cX11_init 122 = .ok (.aload_n 0, 1) := by decide +kernel
theorem dX11_init_123 : decode cX11_init 123 = .ok (.iconst 0, 1) := by decide +kernel
theorem dX11_init_124 : decode cX11_init 124 = .ok (.putfield 81, 3) := by decide +kernel
theorem dX11_init_127 : decode cX11_init 127 = .ok (.iconst 0, 1) := by decide +kernel
theorem dX11_init_128 : decode cX11_init 128 = .ok (.istore_n 1, 1) := by decide +kernel
theorem dX11_init_129 : decode cX11_init 129 = .ok (.iload_n 1, 1) := by decide +kernel
theorem dX11_init_130 : decode cX11_init 130 = .ok (.bipush 8, 2) := by decide +kernel
theorem dX11_init_132 : decode cX11_init 132 = .ok (.if_icmp .ge 22, 3) := by decide +kernel
theorem dX11_init_135 : decode cX11_init 135 = .ok (.aload_n 0, 1) := by decide +kernel
theorem dX11_init_136 : decode cX11_init 136 = .ok (.getfield 11, 3) := by decide +kernel
theorem dX11_init_139 : decode cX11_init 139 = .ok (.iload_n 1, 1) := by decide +kernel
theorem dX11_init_140 : decode cX11_init 140 = .ok (.new 9, 3) := by decide +kernel
theorem dX11_init_143 : decode cX11_init 143 = .ok (.dup, 1) := by decide +kernel
theorem dX11_init_144 : decode cX11_init 144 = .ok (.invokespecial 84, 3) := by decide +kernel
theorem dX11_init_147 : decode cX11_init 147 = .ok (.aastore, 1) := by decide +kernel
theorem dX11_init_148 : decode cX11_init 148 = .ok (.iinc 1 1, 3) := by decide +kernel
theorem dX11_init_151 : decode cX11_init 151 = .ok (.goto (-22), 3) := by decide +kernel
theorem dX11_init_154 : decode cX11_init 154 = .ok (.return_, 1) := by decide +kernel
theorem dX12_init_0 : decode cX12_init 0 = .ok (.aload_n 0, 1) := by decide +kernel
theorem dX12_init_1 : decode cX12_init 1 = .ok (.invokespecial 1, 3) := by decide +kernel
theorem dX12_init_4 : decode cX12_init 4 = .ok (.aload_n 0, 1) := by decide +kernel
theorem dX12_init_5 : decode cX12_init 5 = .ok (.bipush 8, 2) := by decide +kernel
theorem dX12_init_7 : decode cX12_init 7 = .ok (.newarray .int, 2) := by decide +kernel
theorem dX12_init_9 : decode cX12_init 9 = .ok (.dup, 1) := by decide +kernel
theorem dX12_init_10 : decode cX12_init 10 = .ok (.iconst 0, 1) := by decide +kernel
theorem dX12_init_11 : decode cX12_init 11 = .ok (.iconst (-1), 1) := by decide +kernel
theorem dX12_init_12 : decode cX12_init 12 = .ok (.iastore, 1) := by decide +kernel
theorem dX12_init_13 : decode cX12_init 13 = .ok (.dup, 1) := by decide +kernel
theorem dX12_init_14 : decode cX12_init 14 = .ok (.iconst 1, 1) := by decide +kernel
theorem dX12_init_15 : decode cX12_init 15 = .ok (.iconst (-1), 1) := by decide +kernel
theorem dX12_init_16 : decode cX12_init 16 = .ok (.iastore, 1) := by decide +kernel
theorem dX12_init_17 : decode cX12_init 17 = .ok (.dup, 1) := by decide +kernel
theorem dX12_init_18 : decode cX12_init 18 = .ok (.iconst 2, 1) := by decide +kernel
theorem dX12_init_19 : decode cX12_init 19 = .ok (.iconst (-1), 1) := by decide +kernel
theorem dX12_init_20 : decode cX12_init 20 = .ok (.iastore, 1) := by decide +kernel
theorem dX12_init_21 : decode cX12_init 21 = .ok (.dup, 1) := by decide +kernel
theorem dX12_init_22 : decode cX12_init 22 = .ok (.iconst 3, 1) := by decide +kernel
theorem dX12_init_23 : decode cX12_init 23 = .ok (.iconst (-1), 1) := by decide +kernel
theorem dX12_init_24 : decode cX12_init 24 = .ok (.iastore, 1) := by decide +kernel
theorem dX12_init_25 : decode cX12_init 25 = .ok (.dup, 1) := by decide +kernel
theorem dX12_init_26 : decode cX12_init 26 = .ok (.iconst 4, 1) := by decide +kernel
theorem dX12_init_27 : decode cX12_init 27 = .ok (.iconst (-1), 1) := by decide +kernel
theorem dX12_init_28 : decode cX12_init 28 = .ok (.iastore, 1) := by decide +kernel
theorem dX12_init_29 : decode cX12_init 29 = .ok (.dup, 1) := by decide +kernel
theorem dX12_init_30 : decode cX12_init 30 = .ok (.iconst 5, 1) := by decide +kernel
theorem dX12_init_31 : decode cX12_init 31 = .ok (.iconst (-1), 1) := by decide +kernel
theorem dX12_init_32 : decode cX12_init 32 = .ok (.iastore, 1) := by decide +kernel
theorem dX12_init_33 : decode cX12_init 33 = .ok (.dup, 1) := by decide +kernel
theorem dX12_init_34 : decode cX12_init 34 = .ok (.bipush 6, 2) := by decide +kernel
theorem dX12_init_36 : decode cX12_init 36 = .ok (.iconst (-1), 1) := by decide +kernel
theorem dX12_init_37 : decode cX12_init 37 = .ok (.iastore, 1) := by decide +kernel
theorem dX12_init_38 : decode cX12_init 38 = .ok (.dup, 1) := by decide +kernel
theorem dX12_init_39 : decode cX12_init 39 = .ok (.bipush 7, 2) := by decide +kernel
theorem dX12_init_41 : decode cX12_init 41 = .ok (.iconst (-1), 1) := by decide +kernel
theorem dX12_init_42 : decode cX12_init 42 = .ok (.iastore, 1) := by decide +kernel
theorem dX12_init_43 : decode cX12_init 43 = .ok (.putfield 7, 3) := by decide +kernel
theorem dX12_init_46 : decode cX12_init 46 = .ok (.aload_n 0, 1) := by decide +kernel
theorem dX12_init_47 : decode cX12_init 47 = .ok (.bipush 8, 2) := by decide +kernel
theorem dX12_init_49 : decode cX12_init 49 = .ok (.newarray .int, 2) := by decide +kernel
theorem dX12_init_51 : decode cX12_init 51 = .ok (.putfield 13, 3) := by decide +kernel
theorem dX12_init_54 : decode cX12_init 54 = .ok (.aload_n 0, 1) := by decide +kernel
theorem dX12_init_55 : decode cX12_init 55 = .ok (.sipush 960, 3) := by decide +kernel
theorem dX12_init_58 : decode cX12_init 58 = .ok (.newarray .int, 2) := by decide +kernel
theorem dX12_init_60 : decode cX12_init 60 = .ok (.putfield 16, 3) := by decide +kernel
theorem dX12_init_63 : decode cX12_init 63 = .ok (.aload_n 0, 1) := by decide +kernel
theorem dX12_init_64 : decode cX12_init 64 = .ok (.bipush 120, 2) := by decide +kernel
theorem dX12_init_66 : decode cX12_init 66 = .ok (.newarray .int, 2) := by decide +kernel
theorem dX12_init_68 : decode cX12_init 68 = .ok (.putfield 19, 3) := by decide +kernel
theorem dX12_init_71 : decode cX12_init 71 = .ok (.aload_n 0, 1) := by decide +kernel
theorem dX12_init_72 : decode cX12_init 72 = .ok (.bipush 120, 2) := by decide +kernel
theorem dX12_init_74 : decode cX12_init 74 = .ok (.newarray .int, 2) := by decide +kernel
theorem dX12_init_76 : decode cX12_init 76 = .ok (.putfield 22, 3) := by decide +kernel
theorem dX12_init_79 : decode cX12_init 79 = .ok (.aload_n 0, 1) := by decide +kernel
theorem dX12_init_80 : decode cX12_init 80 = .ok (.bipush 120, 2) := by decide +kernel
theorem dX12_init_82 : decode cX12_init 82 = .ok (.newarray .int, 2) := by decide +kernel
theorem dX12_init_84 : decode cX12_init 84 = .ok (.putfield 25, 3) := by decide +kernel
theorem dX12_init_87 : decode cX12_init 87 = .ok (.aload_n 0, 1) := by decide +kernel
theorem dX12_init_88 : decode cX12_init 88 = .ok (.bipush 120, 2) := by decide +kernel
theorem dX12_init_90 : decode cX12_init 90 = .ok (.newarray .int, 2) := by decide +kernel
theorem dX12_init_92 : decode cX12_init 92 = .ok (.putfield 28, 3) := by decide +kernel
theorem dX12_init_95 : decode cX12_init 95 = .ok (.aload_n 0, 1) := by decide +kernel
theorem dX12_init_96 : decode cX12_init 96 = .ok (.bipush 120, 2) := by decide +kernel
theorem dX12_init_98 : decode cX12_init 98 = .ok (.newarray .int, 2) := by decide +kernel
theorem dX12_init_100 : decode cX12_init 100 = .ok (.putfield 31, 3) := by decide +kernel
theorem dX12_init_103 : decode cX12_init 103 = .ok (.aload_n 0, 1) := by decide +kernel
theorem dX12_init_104 : decode cX12_init 104 = .ok (.bipush 120, 2) := by decide +kernel
theorem dX12_init_106 : decode cX12_init 106 = .ok (.newarray .int, 2) := by decide +kernel
theorem dX12_init_108 : decode cX12_init 108 = .ok (.putfield 34, 3) := by decide +kernel
theorem dX12_init_111 : decode cX12_init 111 = .ok (.aload_n 0, 1) := by decide +kernel
theorem dX12_init_112 : decode cX12_init 112 = .ok (.bipush 120, 2) := by decide +kernel
theorem dX12_init_114 : decode cX12_init 114 = .ok (.newarray .int, 2) := by decide +kernel
theorem dX12_init_116 : decode cX12_init 116 = .ok (.putfield 37, 3) := by decide +kernel
theorem dX12_init_119 : decode cX12_init 119 = .ok (.aload_n 0, 1) := by decide +kernel
theorem dX12_init_120 : decode cX12_init 120 = .ok (.bipush 120, 2) := by decide +kernel
theorem dX12_init_122 : decode cX12_init 122 = .ok (.newarray .int, 2) := by decide +kernel
theorem dX12_init_124 : decode cX12_init 124 = .ok (.putfield 40, 3) := by decide +kernel
theorem dX12_init_127 : decode cX12_init 127 = .ok (.aload_n 0, 1) := by decide +kernel
theorem dX12_init_128 : decode cX12_init 128 = .ok (.bipush 100, 2) := by decide +kernel
theorem dX12_init_130 : decode cX12_init 130 = .ok (.putfield 43, 3) := by decide +kernel
theorem dX12_init_133 : decode cX12_init 133 = .ok (.aload_n 0, 1) := by decide +kernel
theorem dX12_init_134 : decode cX12_init 134 = .ok (.bipush 50, 2) := by decide +kernel
theorem dX12_init_136 : decode cX12_init 136 = .ok (.putfield 47, 3) := by decide +kernel
theorem dX12_init_139 : decode cX12_init 139 = .ok (.aload_n 0, 1) := by decide +kernel
theorem dX12_init_140 : decode cX12_init 140 = .ok (.bipush 10, 2) := by decide +kernel
theorem dX12_init_142 : decode cX12_init 142 = .ok (.putfield 50, 3) := by decide +kernel
theorem dX12_init_145 : decode cX12_init 145 = .ok (.aload_n 0, 1) := by decide +kernel
theorem dX12_init_146 : decode cX12_init 146 = .ok (.bipush 20, 2) := by decide +kernel
theorem dX12_init_148 : decode cX12_init 148 = .ok (.putfield 53, 3) := by decide +kernel
theorem dX12_init_151 : decode cX12_init 151 = .ok (.aload_n 0, 1) := by decide +kernel
theorem dX12_init_152 : decode cX12_init 152 = .ok (.bipush 10, 2) := by decide +kernel
theorem dX12_init_154 : decode cX12_init 154 = .ok (.newarray .int, 2) := by decide +kernel
theorem dX12_init_156 : decode cX12_init 156 = .ok (.putfield 56, 3) := by decide +kernel
theorem dX12_init_159 : decode cX12_init 159 = .ok (.aload_n 0, 1) := by decide +kernel
theorem dX12_init_160 : decode cX12_init 160 = .ok (.bipush 12, 2) := by decide +kernel
theorem dX12_init_162 : decode cX12_init 162 = .ok (.newarray .int, 2) := by decide +kernel
theorem dX12_init_164 : decode cX12_init 164 = .ok (.putfield 59, 3) := by decide +kernel
theorem dX12_init_167 : decode cX12_init 167 = .ok (.aload_n 0, 1) := by decide +kernel
theorem dX12_init_168 : decode cX12_init 168 = .ok (.bipush 12, 2) := by decide +kernel
theorem dX12_init_170 : decode cX12_init 170 = .ok (.newarray .int, 2) := by decide +kernel
theorem dX12_init_172 : decode cX12_init 172 = .ok (.putfield 62, 3) := by decide +kernel
theorem dX12_init_175 : decode cX12_init 175 = .ok (.aload_n 0, 1) := by decide +kernel
theorem dX12_init_176 : decode cX12_init 176 = .ok (.sipush 144, 3) := by decide +kernel
theorem dX12_init_179 : decode cX12_init 179 = .ok (.newarray .int, 2) := by decide +kernel
theorem dX12_init_181 : decode cX12_init 181 = .ok (.putfield 65, 3) := by decide +kernel
theorem dX12_init_184 : decode cX12_init 184 = .ok (.aload_n 0, 1) := by decide +kernel
theorem dX12_init_185 : decode cX12_init 185 = .ok (.bipush 12, 2) := by decide +kernel
theorem dX12_init_187 : decode cX12_init 187 = .ok (.newarray .int, 2) := by decide +kernel
theorem dX12_init_189 : decode cX12_init 189 = .ok (.putfield 68, 3) := by decide +kernel
theorem dX12_init_192 : decode cX12_init 192 = .ok (.aload_n 0, 1) := by decide +kernel
theorem dX12_init_193 : decode cX12_init 193 = .ok (.bipush 12, 2) := by decide +kernel
theorem dX12_init_195 : decode cX12_init 195 = .ok (.newarray .int, 2) := by decide +kernel
theorem dX12_init_197 : decode cX12_init 197 = .ok (.putfield 71, 3) := by decide +kernel
theorem dX12_init_200 : decode cX12_init 200 = .ok (.aload_n 0, 1) := by decide +kernel
theorem dX12_init_201 : decode cX12_init 201 = .ok (.sipush 144, 3) := by decide +kernel
theorem dX12_init_204 : decode cX12_init 204 = .ok (.newarray .int, 2) := by decide +kernel
theorem dX12_init_206 : decode cX12_init 206 = .ok (.putfield 74, 3) := by decide +kernel
theorem dX12_init_209 : decode cX12_init 209 = .ok (.aload_n 0, 1) := by decide +kernel
theorem dX12_init_210 : decode cX12_init 210 = .ok (.iconst 4, 1) := by decide +kernel
theorem dX12_init_211 : decode cX12_init 211 = .ok (.newarray .int, 2) := by decide +kernel
theorem dX12_init_213 : decode cX12_init 213 = .ok (.putfield 77, 3) := by decide +kernel
theorem dX12_init_216 : decode cX12_init 216 = .ok (.aload_n 0, 1) := by decide +kernel
theorem dX12_init_217 : decode cX12_init 217 = .ok (.sipush 600, 3) := by decide +kernel
theorem dX12_init_220 : decode cX12_init 220 = .ok (.newarray .int, 2) := by decide +kernel
theorem dX12_init_222 : decode cX12_init 222 = .ok (.putfield 80, 3) := by decide +kernel
theorem dX12_init_225 : decode cX12_init 225 = .ok (.aload_n 0, 1) := by decide +kernel
theorem dX12_init_226 : decode cX12_init 226 = .ok (.bipush 120, 2) := by decide +kernel
theorem dX12_init_228 : decode cX12_init 228 = .ok (.newarray .int, 2) := by decide +kernel
theorem dX12_init_230 : decode cX12_init 230 = .ok (.putfield 83, 3) := by decide +kernel
theorem dX12_init_233 : decode cX12_init 233 = .ok (.aload_n 0, 1) := by decide +kernel
theorem dX12_init_234 : decode cX12_init 234 = .ok (.bipush 120, 2) := by decide +kernel
theorem dX12_init_236 : decode cX12_init 236 = .ok (.newarray .int, 2) := by decide +kernel
theorem dX12_init_238 : decode cX12_init 238 = .ok (.putfield 86, 3) := by decide +kernel
theorem dX12_init_241 : decode cX12_init 241 = .ok (.aload_n 0, 1) := by decide +kernel
theorem dX12_init_242 : decode cX12_init 242 = .ok (.iconst 2, 1) := by decide +kernel
theorem dX12_init_243 : decode cX12_init 243 = .ok (.newarray .int, 2) := by decide +kernel
theorem dX12_init_245 : decode cX12_init 245 = .ok (.dup, 1) := by decide +kernel
theorem dX12_init_246 : decode cX12_init 246 = .ok (.iconst 0, 1) := by decide +kernel
theorem dX12_init_247 : decode cX12_init 247 = .ok (.bipush 50, 2) := by decide +kernel
theorem dX12_init_249 : decode cX12_init 249 = .ok (.iastore, 1) := by decide +kernel
theorem dX12_init_250 : decode cX12_init 250 = .ok (.dup, 1) := by decide +kernel
theorem dX12_init_251 : decode cX12_init 251 = .ok (.iconst 1, 1) := by decide +kernel
theorem dX12_init_252 : decode cX12_init 252 = .ok (.iconst 5, 1) := by decide +kernel
theorem dX12_init_253 : decode cX12_init 253 = .ok (.iastore, 1) := by decide +kernel
theorem dX12_init_254 : decode cX12_init 254 = .ok (.putfield 89, 3) := by decide +kernel
theorem dX12_init_257 : decode cX12_init 257 = .ok (.aload_n 0, 1) := by decide +kernel
theorem dX12_init_258 : decode cX12_init 258 = .ok (.bipush 120, 2) := by decide +kernel
theorem dX12_init_260 : decode cX12_init 260 = .ok (.newarray .int, 2) := by decide +kernel
theorem dX12_init_262 : decode cX12_init 262 = .ok (.putfield 92, 3) := by decide +kernel
theorem dX12_init_265 : decode cX12_init 265 = .ok (.aload_n 0, 1) := by decide +kernel
theorem dX12_init_266 : decode cX12_init 266 = .ok (.sipush 1681, 3) := by decide +kernel
theorem dX12_init_269 : decode cX12_init 269 = .ok (.newarray .long, 2) := by decide +kernel
theorem dX12_init_271 : decode cX12_init 271 = .ok (.putfield 95, 3) := by decide +kernel
theorem dX12_init_274 : decode cX12_init 274 = .ok (.aload_n 0, 1) := by decide +kernel
theorem dX12_init_275 : decode cX12_init 275 = .ok (.bipush 16, 2) := by decide +kernel
theorem dX12_init_277 : decode cX12_init 277 = .ok (.newarray .int, 2) := by decide +kernel
theorem dX12_init_279 : decode cX12_init 279 = .ok (.putfield 99, 3) := by decide +kernel
theorem dX12_init_282 : decode cX12_init 282 = .ok (.return_, 1) := by decide +kernel
abbrev m_X3_init_0 : aM := (yX3_init, cX3_init, 1, none, 2, 80, 2, 1120)
def f_X3_init_0_28 (cu : Nat) (su : Nat) (x0 : Nat) (σ : aSt) : Option (Unit × aSt) := (if cu ≤ 2 ∧ su ≤ 1120 then (if aSh (x0) = 3 ∧ x0 < gN σ then some ((), (sI σ x0 3 (0))) else none) else none)
def f_X3_init_0_23 (cu : Nat) (su : Nat) (x0 : Nat) (σ : aSt) : Option (Unit × aSt) := (if cu ≤ 2 ∧ su ≤ 1120 then (if aSh (x0) = 3 ∧ x0 < gN σ then f_X3_init_0_28 cu su (x0) (sI σ x0 2 (0)) else none) else none)
def f_X3_init_0_14 (cu : Nat) (su : Nat) (x0 : Nat) (σ : aSt) : Option (Unit × aSt) := (if cu ≤ 2 ∧ su ≤ 1120 then (if aSh (gN σ) = 17 ∧ (120 : Int32).toNatClampNeg = aLn (gN σ) ∧ aLn (gN σ) ≤ 10000 ∧ cu + 1 ≤ 2 ∧ su + aLn (gN σ) ≤ 1120 then (if aSh (x0) = 3 ∧ x0 < gN (sN σ) then f_X3_init_0_23 (cu + 1) (su + aLn (gN σ)) (x0) (sR (sN σ) x0 1 (some ((gN σ)))) else none) else none) else none)
def f_X3_init_0 (p0 : Nat) (σ : aSt) : Option (Unit × aSt) := (if aSh (gN σ) = 17 ∧ (1000 : Int32).toNatClampNeg = aLn (gN σ) ∧ aLn (gN σ) ≤ 10000 ∧ 0 + 1 ≤ 2 ∧ 0 + aLn (gN σ) ≤ 1120 then (if aSh (p0) = 3 ∧ p0 < gN (sN σ) then f_X3_init_0_14 (0 + 1) (0 + aLn (gN σ)) (p0) (sR (sN σ) p0 0 (some ((gN σ)))) else none) else none)
abbrev m_X10_init_0 : aM := (yX10_init, cX10_init, 1, none, 2, 80, 4, 2403)
def f_X10_init_0_45 (cu : Nat) (su : Nat) (x0 : Nat) (σ : aSt) : Option (Unit × aSt) := (if cu ≤ 4 ∧ su ≤ 2403 then (if aSh (x0) = 10 ∧ x0 < gN σ then some ((), (sI σ x0 5 (0))) else none) else none)
def f_X10_init_0_36 (cu : Nat) (su : Nat) (x0 : Nat) (σ : aSt) : Option (Unit × aSt) := (if cu ≤ 4 ∧ su ≤ 2403 then (if aSh (gN σ) = 14 ∧ (600 : Int32).toNatClampNeg = aLn (gN σ) ∧ aLn (gN σ) ≤ 10000 ∧ cu + 1 ≤ 4 ∧ su + aLn (gN σ) ≤ 2403 then (if aSh (x0) = 10 ∧ x0 < gN (sN σ) then f_X10_init_0_45 (cu + 1) (su + aLn (gN σ)) (x0) (sR (sN σ) x0 4 (some ((gN σ)))) else none) else none) else none)
def f_X10_init_0_31 (cu : Nat) (su : Nat) (x0 : Nat) (σ : aSt) : Option (Unit × aSt) := (if cu ≤ 4 ∧ su ≤ 2403 then (if aSh (x0) = 10 ∧ x0 < gN σ then f_X10_init_0_36 cu su (x0) (sI σ x0 3 (0)) else none) else none)
def f_X10_init_0_22 (cu : Nat) (su : Nat) (x0 : Nat) (σ : aSt) : Option (Unit × aSt) := (if cu ≤ 4 ∧ su ≤ 2403 then (if aSh (gN σ) = 13 ∧ (601 : Int32).toNatClampNeg = aLn (gN σ) ∧ aLn (gN σ) ≤ 10000 ∧ cu + 1 ≤ 4 ∧ su + aLn (gN σ) ≤ 2403 then (if aSh (x0) = 10 ∧ x0 < gN (sN σ) then f_X10_init_0_31 (cu + 1) (su + aLn (gN σ)) (x0) (sR (sN σ) x0 2 (some ((gN σ)))) else none) else none) else none)
def f_X10_init_0_13 (cu : Nat) (su : Nat) (x0 : Nat) (σ : aSt) : Option (Unit × aSt) := (if cu ≤ 4 ∧ su ≤ 2403 then (if aSh (gN σ) = 13 ∧ (601 : Int32).toNatClampNeg = aLn (gN σ) ∧ aLn (gN σ) ≤ 10000 ∧ cu + 1 ≤ 4 ∧ su + aLn (gN σ) ≤ 2403 then (if aSh (x0) = 10 ∧ x0 < gN (sN σ) then f_X10_init_0_22 (cu + 1) (su + aLn (gN σ)) (x0) (sR (sN σ) x0 1 (some ((gN σ)))) else none) else none) else none)
def f_X10_init_0 (p0 : Nat) (σ : aSt) : Option (Unit × aSt) := (if aSh (gN σ) = 13 ∧ (601 : Int32).toNatClampNeg = aLn (gN σ) ∧ aLn (gN σ) ≤ 10000 ∧ 0 + 1 ≤ 4 ∧ 0 + aLn (gN σ) ≤ 2403 then (if aSh (p0) = 10 ∧ p0 < gN (sN σ) then f_X10_init_0_13 (0 + 1) (0 + aLn (gN σ)) (p0) (sR (sN σ) p0 0 (some ((gN σ)))) else none) else none)
abbrev m_X6_init_0 : aM := (yX6_init, cX6_init, 2, none, 2, 80, 0, 0)
def f_X6_init_0_34 (cu : Nat) (su : Nat) (x0 : Nat) (x1 : Option Nat) (σ : aSt) : Option (Unit × aSt) := (if cu ≤ 0 ∧ su ≤ 0 then (if aSh (x0) = 6 ∧ x0 < gN σ then some ((), (sR σ x0 2 x1)) else none) else none)
def f_X6_init_0_29 (cu : Nat) (su : Nat) (x0 : Nat) (x1 : Option Nat) (σ : aSt) : Option (Unit × aSt) := (if cu ≤ 0 ∧ su ≤ 0 then (if aSh (x0) = 6 ∧ x0 < gN σ then f_X6_init_0_34 cu su (x0) (x1) (sI σ x0 6 (0)) else none) else none)
def f_X6_init_0_24 (cu : Nat) (su : Nat) (x0 : Nat) (x1 : Option Nat) (σ : aSt) : Option (Unit × aSt) := (if cu ≤ 0 ∧ su ≤ 0 then (if aSh (x0) = 6 ∧ x0 < gN σ then f_X6_init_0_29 cu su (x0) (x1) (sI σ x0 5 (4)) else none) else none)
def f_X6_init_0_19 (cu : Nat) (su : Nat) (x0 : Nat) (x1 : Option Nat) (σ : aSt) : Option (Unit × aSt) := (if cu ≤ 0 ∧ su ≤ 0 then (if aSh (x0) = 6 ∧ x0 < gN σ then f_X6_init_0_24 cu su (x0) (x1) (sI σ x0 4 (0)) else none) else none)
def f_X6_init_0_14 (cu : Nat) (su : Nat) (x0 : Nat) (x1 : Option Nat) (σ : aSt) : Option (Unit × aSt) := (if cu ≤ 0 ∧ su ≤ 0 then (if aSh (x0) = 6 ∧ x0 < gN σ then f_X6_init_0_19 cu su (x0) (x1) (sR σ x0 3 none) else none) else none)
def f_X6_init_0_9 (cu : Nat) (su : Nat) (x0 : Nat) (x1 : Option Nat) (σ : aSt) : Option (Unit × aSt) := (if cu ≤ 0 ∧ su ≤ 0 then (if aSh (x0) = 6 ∧ x0 < gN σ then f_X6_init_0_14 cu su (x0) (x1) (sI σ x0 1 (0)) else none) else none)
def f_X6_init_0 (p0 : Nat) (p1 : Option Nat) (σ : aSt) : Option (Unit × aSt) := (if aSh (p0) = 6 ∧ p0 < gN σ then f_X6_init_0_9 0 0 (p0) (p1) (sI σ p0 0 (0)) else none)
abbrev m_X8_clear_0 : aM := (yX8_clear, cX8_clear, 1, none, 2, 80, 0, 0)
def f_X8_clear_0_32 (x0 : Nat) (σ : aSt) : Option (Unit × aSt) := (if aSh (x0) = 8 ∧ x0 < gN σ then some ((), (sI σ x0 1 (0))) else none)
def f_X8_clear_0_24 (x0 : Nat) (σ : aSt) : Option (Unit × aSt) := (if aSh (x0) = 8 ∧ x0 < gN σ then (oC (gR σ x0 0) none (fun a8 => (if aSh (a8) = 13 ∧ a8 < gN σ then (if inB (3) (aLn (a8)) then f_X8_clear_0_32 (x0) (sI σ a8 (3 : Int32).toNatClampNeg (20)) else none) else none))) else none)
def f_X8_clear_0_16 (x0 : Nat) (σ : aSt) : Option (Unit × aSt) := (if aSh (x0) = 8 ∧ x0 < gN σ then (oC (gR σ x0 0) none (fun a13 => (if aSh (a13) = 13 ∧ a13 < gN σ then (if inB (2) (aLn (a13)) then f_X8_clear_0_24 (x0) (sI σ a13 (2 : Int32).toNatClampNeg (10)) else none) else none))) else none)
def f_X8_clear_0_8 (x0 : Nat) (σ : aSt) : Option (Unit × aSt) := (if aSh (x0) = 8 ∧ x0 < gN σ then (oC (gR σ x0 0) none (fun a18 => (if aSh (a18) = 13 ∧ a18 < gN σ then (if inB (1) (aLn (a18)) then f_X8_clear_0_16 (x0) (sI σ a18 (1 : Int32).toNatClampNeg (50)) else none) else none))) else none)
def f_X8_clear_0 (p0 : Nat) (σ : aSt) : Option (Unit × aSt) := (if aSh (p0) = 8 ∧ p0 < gN σ then (oC (gR σ p0 0) none (fun a2 => (if aSh (a2) = 13 ∧ a2 < gN σ then (if inB (0) (aLn (a2)) then f_X8_clear_0_8 (p0) (sI σ a2 (0 : Int32).toNatClampNeg (100)) else none) else none))) else none)
abbrev m_X8_init_0 : aM := (yX8_init, cX8_init, 1, none, 3, 100, 6, 172)
def f_X8_init_0_56 (cu : Nat) (su : Nat) (x0 : Nat) (σ : aSt) : Option (Unit × aSt) := (if cu ≤ 6 ∧ su ≤ 172 then (if aSh (x0) = 8 ∧ x0 < gN σ then (f_X8_clear_0 (x0) σ).bind (fun q3 => some ((), q3.2)) else none) else none)
def f_X8_init_0_48 (cu : Nat) (su : Nat) (x0 : Nat) (σ : aSt) : Option (Unit × aSt) := (if cu ≤ 6 ∧ su ≤ 172 then (if aSh (gN σ) = 13 ∧ (48 : Int32).toNatClampNeg = aLn (gN σ) ∧ aLn (gN σ) ≤ 10000 ∧ cu + 1 ≤ 6 ∧ su + aLn (gN σ) ≤ 172 then (if aSh (x0) = 8 ∧ x0 < gN (sN σ) then f_X8_init_0_56 (cu + 1) (su + aLn (gN σ)) (x0) (sR (sN σ) x0 6 (some ((gN σ)))) else none) else none) else none)
def f_X8_init_0_40 (cu : Nat) (su : Nat) (x0 : Nat) (σ : aSt) : Option (Unit × aSt) := (if cu ≤ 6 ∧ su ≤ 172 then (if aSh (gN σ) = 13 ∧ (48 : Int32).toNatClampNeg = aLn (gN σ) ∧ aLn (gN σ) ≤ 10000 ∧ cu + 1 ≤ 6 ∧ su + aLn (gN σ) ≤ 172 then (if aSh (x0) = 8 ∧ x0 < gN (sN σ) then f_X8_init_0_48 (cu + 1) (su + aLn (gN σ)) (x0) (sR (sN σ) x0 5 (some ((gN σ)))) else none) else none) else none)
def f_X8_init_0_32 (cu : Nat) (su : Nat) (x0 : Nat) (σ : aSt) : Option (Unit × aSt) := (if cu ≤ 6 ∧ su ≤ 172 then (if aSh (gN σ) = 13 ∧ (48 : Int32).toNatClampNeg = aLn (gN σ) ∧ aLn (gN σ) ≤ 10000 ∧ cu + 1 ≤ 6 ∧ su + aLn (gN σ) ≤ 172 then (if aSh (x0) = 8 ∧ x0 < gN (sN σ) then f_X8_init_0_40 (cu + 1) (su + aLn (gN σ)) (x0) (sR (sN σ) x0 4 (some ((gN σ)))) else none) else none) else none)
def f_X8_init_0_24 (cu : Nat) (su : Nat) (x0 : Nat) (σ : aSt) : Option (Unit × aSt) := (if cu ≤ 6 ∧ su ≤ 172 then (if aSh (gN σ) = 13 ∧ (12 : Int32).toNatClampNeg = aLn (gN σ) ∧ aLn (gN σ) ≤ 10000 ∧ cu + 1 ≤ 6 ∧ su + aLn (gN σ) ≤ 172 then (if aSh (x0) = 8 ∧ x0 < gN (sN σ) then f_X8_init_0_32 (cu + 1) (su + aLn (gN σ)) (x0) (sR (sN σ) x0 3 (some ((gN σ)))) else none) else none) else none)
def f_X8_init_0_16 (cu : Nat) (su : Nat) (x0 : Nat) (σ : aSt) : Option (Unit × aSt) := (if cu ≤ 6 ∧ su ≤ 172 then (if aSh (gN σ) = 13 ∧ (12 : Int32).toNatClampNeg = aLn (gN σ) ∧ aLn (gN σ) ≤ 10000 ∧ cu + 1 ≤ 6 ∧ su + aLn (gN σ) ≤ 172 then (if aSh (x0) = 8 ∧ x0 < gN (sN σ) then f_X8_init_0_24 (cu + 1) (su + aLn (gN σ)) (x0) (sR (sN σ) x0 2 (some ((gN σ)))) else none) else none) else none)
def f_X8_init_0_11 (cu : Nat) (su : Nat) (x0 : Nat) (σ : aSt) : Option (Unit × aSt) := (if cu ≤ 6 ∧ su ≤ 172 then (if aSh (x0) = 8 ∧ x0 < gN σ then f_X8_init_0_16 cu su (x0) (sI σ x0 1 (0)) else none) else none)
def f_X8_init_0 (p0 : Nat) (σ : aSt) : Option (Unit × aSt) := (if aSh (gN σ) = 13 ∧ (4 : Int32).toNatClampNeg = aLn (gN σ) ∧ aLn (gN σ) ≤ 10000 ∧ 0 + 1 ≤ 6 ∧ 0 + aLn (gN σ) ≤ 172 then (if aSh (p0) = 8 ∧ p0 < gN (sN σ) then f_X8_init_0_11 (0 + 1) (0 + aLn (gN σ)) (p0) (sR (sN σ) p0 0 (some ((gN σ)))) else none) else none)
abbrev m_X7_init_0 : aM := (yX7_init, cX7_init, 1, none, 2, 80, 2, 30)
def f_X7_init_0_40 (cu : Nat) (su : Nat) (x0 : Nat) (σ : aSt) : Option (Unit × aSt) := (if cu ≤ 2 ∧ su ≤ 30 then (if aSh (x0) = 7 ∧ x0 < gN σ then some ((), (sI σ x0 6 (0))) else none) else none)
def f_X7_init_0_35 (cu : Nat) (su : Nat) (x0 : Nat) (σ : aSt) : Option (Unit × aSt) := (if cu ≤ 2 ∧ su ≤ 30 then (if aSh (x0) = 7 ∧ x0 < gN σ then f_X7_init_0_40 cu su (x0) (sI σ x0 5 (0)) else none) else none)
def f_X7_init_0_30 (cu : Nat) (su : Nat) (x0 : Nat) (σ : aSt) : Option (Unit × aSt) := (if cu ≤ 2 ∧ su ≤ 30 then (if aSh (x0) = 7 ∧ x0 < gN σ then f_X7_init_0_35 cu su (x0) (sI σ x0 4 (0)) else none) else none)
def f_X7_init_0_25 (cu : Nat) (su : Nat) (x0 : Nat) (σ : aSt) : Option (Unit × aSt) := (if cu ≤ 2 ∧ su ≤ 30 then (if aSh (x0) = 7 ∧ x0 < gN σ then f_X7_init_0_30 cu su (x0) (sI σ x0 3 (0)) else none) else none)
def f_X7_init_0_17 (cu : Nat) (su : Nat) (x0 : Nat) (σ : aSt) : Option (Unit × aSt) := (if cu ≤ 2 ∧ su ≤ 30 then (if aSh (gN σ) = 13 ∧ (20 : Int32).toNatClampNeg = aLn (gN σ) ∧ aLn (gN σ) ≤ 10000 ∧ cu + 1 ≤ 2 ∧ su + aLn (gN σ) ≤ 30 then (if aSh (x0) = 7 ∧ x0 < gN (sN σ) then f_X7_init_0_25 (cu + 1) (su + aLn (gN σ)) (x0) (sR (sN σ) x0 2 (some ((gN σ)))) else none) else none) else none)
def f_X7_init_0_12 (cu : Nat) (su : Nat) (x0 : Nat) (σ : aSt) : Option (Unit × aSt) := (if cu ≤ 2 ∧ su ≤ 30 then (if aSh (x0) = 7 ∧ x0 < gN σ then f_X7_init_0_17 cu su (x0) (sI σ x0 1 (0)) else none) else none)
def f_X7_init_0 (p0 : Nat) (σ : aSt) : Option (Unit × aSt) := (if aSh (gN σ) = 13 ∧ (10 : Int32).toNatClampNeg = aLn (gN σ) ∧ aLn (gN σ) ≤ 10000 ∧ 0 + 1 ≤ 2 ∧ 0 + aLn (gN σ) ≤ 30 then (if aSh (p0) = 7 ∧ p0 < gN (sN σ) then f_X7_init_0_12 (0 + 1) (0 + aLn (gN σ)) (p0) (sR (sN σ) p0 0 (some ((gN σ)))) else none) else none)
abbrev m_J7_fill_53178_0 : aM := (yJ7_fill_53178, cJ7_fill_53178, 4, none, 2, 80, 0, 0)
def f_J7_fill_53178_0_14 (rec5 : Nat → Int32 → Int32 → Int32 → aSt → Option (Unit × aSt)) (x0 : Nat) (x1 : Int32) (x2 : Int32) (x3 : Int32) (σ : aSt) : Option (Unit × aSt) := rec5 (x0) (x1) (x2 + 1) (x3) σ
def f_J7_fill_53178_0_5_b (rec5 : Nat → Int32 → Int32 → Int32 → aSt → Option (Unit × aSt)) (x0 : Nat) (x1 : Int32) (x2 : Int32) (x3 : Int32) (σ : aSt) : Option (Unit × aSt) := (if x3 ≤ x2 then some ((), σ) else (if aSh (x0) = 13 ∧ x0 < gN σ then (if inB (x2) (aLn (x0)) then f_J7_fill_53178_0_14 rec5 (x0) (x1) (x2) (x3) (sI σ x0 x2.toNatClampNeg (x1)) else none) else none))
def f_J7_fill_53178_0_5  : Nat → Nat → Int32 → Int32 → Int32 → aSt → Option (Unit × aSt)
  | 0 => fun _ _ _ _ _ => none
  | n + 1 => fun x0 x1 x2 x3 σ => f_J7_fill_53178_0_5_b (f_J7_fill_53178_0_5  n) x0 x1 x2 x3 σ
def f_J7_fill_53178_0 (p0 : Option Nat) (p1 : Int32) (σ : aSt) : Option (Unit × aSt) := (oC (p0) none (fun a1 => (if aSh (a1) = 13 ∧ a1 < gN σ then f_J7_fill_53178_0_5 aN (a1) (p1) (0) ((Int32.ofNat (aLn a1))) σ else none)))
abbrev m_X2_forget_0 : aM := (yX2_forget, cX2_forget, 1, none, 3, 103, 0, 0)
def f_X2_forget_0 (p0 : Nat) (σ : aSt) : Option (Unit × aSt) := (if aSh (p0) = 2 ∧ p0 < gN σ then (f_J7_fill_53178_0 (gR σ p0 5) ((-1)) σ).bind (fun q2 => some ((), q2.2)) else none)
abbrev m_X2_init_0 : aM := (yX2_init, cX2_init, 2, none, 4, 123, 14, 936)
def f_X2_init_0_71 (cu : Nat) (su : Nat) (x0 : Nat) (σ : aSt) : Option (Unit × aSt) := (if cu ≤ 14 ∧ su ≤ 936 then (if aSh (x0) = 2 ∧ x0 < gN σ then (f_X2_forget_0 (x0) σ).bind (fun q7 => some ((), q7.2)) else none) else none)
def f_X2_init_0_66 (cu : Nat) (su : Nat) (x0 : Nat) (x1 : Option Nat) (σ : aSt) : Option (Unit × aSt) := (if cu ≤ 14 ∧ su ≤ 936 then (if aSh (x0) = 2 ∧ x0 < gN σ then f_X2_init_0_71 cu su (x0) (sR σ x0 3 x1) else none) else none)
def f_X2_init_0_58 (cu : Nat) (su : Nat) (x0 : Nat) (x1 : Option Nat) (σ : aSt) : Option (Unit × aSt) := (if cu ≤ 14 ∧ su ≤ 936 then (if aSh (gN σ) = 15 ∧ (120 : Int32).toNatClampNeg = aLn (gN σ) ∧ aLn (gN σ) ≤ 10000 ∧ cu + 1 ≤ 14 ∧ su + aLn (gN σ) ≤ 936 then (if aSh (x0) = 2 ∧ x0 < gN (sN σ) then f_X2_init_0_66 (cu + 1) (su + aLn (gN σ)) (x0) (x1) (sR (sN σ) x0 7 (some ((gN σ)))) else none) else none) else none)
def f_X2_init_0_49 (cu : Nat) (su : Nat) (x0 : Nat) (x1 : Option Nat) (σ : aSt) : Option (Unit × aSt) := (if cu ≤ 14 ∧ su ≤ 936 then (if aSh (gN σ) = 13 ∧ (240 : Int32).toNatClampNeg = aLn (gN σ) ∧ aLn (gN σ) ≤ 10000 ∧ cu + 1 ≤ 14 ∧ su + aLn (gN σ) ≤ 936 then (if aSh (x0) = 2 ∧ x0 < gN (sN σ) then f_X2_init_0_58 (cu + 1) (su + aLn (gN σ)) (x0) (x1) (sR (sN σ) x0 6 (some ((gN σ)))) else none) else none) else none)
def f_X2_init_0_40 (cu : Nat) (su : Nat) (x0 : Nat) (x1 : Option Nat) (σ : aSt) : Option (Unit × aSt) := (if cu ≤ 14 ∧ su ≤ 936 then (if aSh (gN σ) = 13 ∧ (240 : Int32).toNatClampNeg = aLn (gN σ) ∧ aLn (gN σ) ≤ 10000 ∧ cu + 1 ≤ 14 ∧ su + aLn (gN σ) ≤ 936 then (if aSh (x0) = 2 ∧ x0 < gN (sN σ) then f_X2_init_0_49 (cu + 1) (su + aLn (gN σ)) (x0) (x1) (sR (sN σ) x0 5 (some ((gN σ)))) else none) else none) else none)
def f_X2_init_0_29 (cu : Nat) (su : Nat) (x0 : Nat) (x1 : Option Nat) (σ : aSt) : Option (Unit × aSt) := (if cu ≤ 14 ∧ su ≤ 936 then (if aSh (gN σ) = 7 ∧ cu + 1 ≤ 14 ∧ su + 7 ≤ 936 then (if (cu + 1) + 2 ≤ 14 ∧ (su + 7) + 30 ≤ 936 then (f_X7_init_0 ((gN σ)) (sN σ)).bind (fun q19 => (if aSh (x0) = 2 ∧ x0 < gN q19.2 then f_X2_init_0_40 ((cu + 1) + 2) ((su + 7) + 30) (x0) (x1) (sR q19.2 x0 4 (some ((gN σ)))) else none)) else none) else none) else none)
def f_X2_init_0_24 (cu : Nat) (su : Nat) (x0 : Nat) (x1 : Option Nat) (σ : aSt) : Option (Unit × aSt) := (if cu ≤ 14 ∧ su ≤ 936 then (if aSh (x0) = 2 ∧ x0 < gN σ then f_X2_init_0_29 cu su (x0) (x1) (sI σ x0 2 (0)) else none) else none)
def f_X2_init_0_15 (cu : Nat) (su : Nat) (x0 : Nat) (x1 : Option Nat) (σ : aSt) : Option (Unit × aSt) := (if cu ≤ 14 ∧ su ≤ 936 then (if aSh (gN σ) = 17 ∧ (120 : Int32).toNatClampNeg = aLn (gN σ) ∧ aLn (gN σ) ≤ 10000 ∧ cu + 1 ≤ 14 ∧ su + aLn (gN σ) ≤ 936 then (if aSh (x0) = 2 ∧ x0 < gN (sN σ) then f_X2_init_0_24 (cu + 1) (su + aLn (gN σ)) (x0) (x1) (sR (sN σ) x0 1 (some ((gN σ)))) else none) else none) else none)
def f_X2_init_0 (p0 : Nat) (p1 : Option Nat) (σ : aSt) : Option (Unit × aSt) := (if aSh (gN σ) = 8 ∧ 0 + 1 ≤ 14 ∧ 0 + 7 ≤ 936 then (if (0 + 1) + 6 ≤ 14 ∧ (0 + 7) + 172 ≤ 936 then (f_X8_init_0 ((gN σ)) (sN σ)).bind (fun q3 => (if aSh (p0) = 2 ∧ p0 < gN q3.2 then f_X2_init_0_15 ((0 + 1) + 6) ((0 + 7) + 172) (p0) (p1) (sR q3.2 p0 0 (some ((gN σ)))) else none)) else none) else none)
abbrev m_X5_init_0 : aM := (yX5_init, cX5_init, 3, none, 2, 80, 4, 4457)
def f_X5_init_0_78 (cu : Nat) (su : Nat) (x0 : Nat) (x2 : Option Nat) (σ : aSt) : Option (Unit × aSt) := (if cu ≤ 4 ∧ su ≤ 4457 then (if aSh (x0) = 5 ∧ x0 < gN σ then some ((), (sR σ x0 6 x2)) else none) else none)
def f_X5_init_0_73 (cu : Nat) (su : Nat) (x0 : Nat) (x1 : Option Nat) (x2 : Option Nat) (σ : aSt) : Option (Unit × aSt) := (if cu ≤ 4 ∧ su ≤ 4457 then (if aSh (x0) = 5 ∧ x0 < gN σ then f_X5_init_0_78 cu su (x0) (x2) (sR σ x0 5 x1) else none) else none)
def f_X5_init_0_64 (cu : Nat) (su : Nat) (x0 : Nat) (x1 : Option Nat) (x2 : Option Nat) (σ : aSt) : Option (Unit × aSt) := (if cu ≤ 4 ∧ su ≤ 4457 then (if aSh (gN σ) = 13 ∧ (4096 : Int32).toNatClampNeg = aLn (gN σ) ∧ aLn (gN σ) ≤ 10000 ∧ cu + 1 ≤ 4 ∧ su + aLn (gN σ) ≤ 4457 then (if aSh (x0) = 5 ∧ x0 < gN (sN σ) then f_X5_init_0_73 (cu + 1) (su + aLn (gN σ)) (x0) (x1) (x2) (sR (sN σ) x0 12 (some ((gN σ)))) else none) else none) else none)
def f_X5_init_0_59 (cu : Nat) (su : Nat) (x0 : Nat) (x1 : Option Nat) (x2 : Option Nat) (σ : aSt) : Option (Unit × aSt) := (if cu ≤ 4 ∧ su ≤ 4457 then (if aSh (x0) = 5 ∧ x0 < gN σ then f_X5_init_0_64 cu su (x0) (x1) (x2) (sI σ x0 11 (0)) else none) else none)
def f_X5_init_0_51 (cu : Nat) (su : Nat) (x0 : Nat) (x1 : Option Nat) (x2 : Option Nat) (σ : aSt) : Option (Unit × aSt) := (if cu ≤ 4 ∧ su ≤ 4457 then (if aSh (gN σ) = 13 ∧ (121 : Int32).toNatClampNeg = aLn (gN σ) ∧ aLn (gN σ) ≤ 10000 ∧ cu + 1 ≤ 4 ∧ su + aLn (gN σ) ≤ 4457 then (if aSh (x0) = 5 ∧ x0 < gN (sN σ) then f_X5_init_0_59 (cu + 1) (su + aLn (gN σ)) (x0) (x1) (x2) (sR (sN σ) x0 10 (some ((gN σ)))) else none) else none) else none)
def f_X5_init_0_46 (cu : Nat) (su : Nat) (x0 : Nat) (x1 : Option Nat) (x2 : Option Nat) (σ : aSt) : Option (Unit × aSt) := (if cu ≤ 4 ∧ su ≤ 4457 then (if aSh (x0) = 5 ∧ x0 < gN σ then f_X5_init_0_51 cu su (x0) (x1) (x2) (sI σ x0 9 (0)) else none) else none)
def f_X5_init_0_38 (cu : Nat) (su : Nat) (x0 : Nat) (x1 : Option Nat) (x2 : Option Nat) (σ : aSt) : Option (Unit × aSt) := (if cu ≤ 4 ∧ su ≤ 4457 then (if aSh (gN σ) = 13 ∧ (120 : Int32).toNatClampNeg = aLn (gN σ) ∧ aLn (gN σ) ≤ 10000 ∧ cu + 1 ≤ 4 ∧ su + aLn (gN σ) ≤ 4457 then (if aSh (x0) = 5 ∧ x0 < gN (sN σ) then f_X5_init_0_46 (cu + 1) (su + aLn (gN σ)) (x0) (x1) (x2) (sR (sN σ) x0 8 (some ((gN σ)))) else none) else none) else none)
def f_X5_init_0_30 (cu : Nat) (su : Nat) (x0 : Nat) (x1 : Option Nat) (x2 : Option Nat) (σ : aSt) : Option (Unit × aSt) := (if cu ≤ 4 ∧ su ≤ 4457 then (if aSh (gN σ) = 13 ∧ (120 : Int32).toNatClampNeg = aLn (gN σ) ∧ aLn (gN σ) ≤ 10000 ∧ cu + 1 ≤ 4 ∧ su + aLn (gN σ) ≤ 4457 then (if aSh (x0) = 5 ∧ x0 < gN (sN σ) then f_X5_init_0_38 (cu + 1) (su + aLn (gN σ)) (x0) (x1) (x2) (sR (sN σ) x0 7 (some ((gN σ)))) else none) else none) else none)
def f_X5_init_0_25 (cu : Nat) (su : Nat) (x0 : Nat) (x1 : Option Nat) (x2 : Option Nat) (σ : aSt) : Option (Unit × aSt) := (if cu ≤ 4 ∧ su ≤ 4457 then (if aSh (x0) = 5 ∧ x0 < gN σ then f_X5_init_0_30 cu su (x0) (x1) (x2) (sL σ x0 4 (0)) else none) else none)
def f_X5_init_0_20 (cu : Nat) (su : Nat) (x0 : Nat) (x1 : Option Nat) (x2 : Option Nat) (σ : aSt) : Option (Unit × aSt) := (if cu ≤ 4 ∧ su ≤ 4457 then (if aSh (x0) = 5 ∧ x0 < gN σ then f_X5_init_0_25 cu su (x0) (x1) (x2) (sI σ x0 3 (0)) else none) else none)
def f_X5_init_0_15 (cu : Nat) (su : Nat) (x0 : Nat) (x1 : Option Nat) (x2 : Option Nat) (σ : aSt) : Option (Unit × aSt) := (if cu ≤ 4 ∧ su ≤ 4457 then (if aSh (x0) = 5 ∧ x0 < gN σ then f_X5_init_0_20 cu su (x0) (x1) (x2) (sI σ x0 2 (0)) else none) else none)
def f_X5_init_0_10 (cu : Nat) (su : Nat) (x0 : Nat) (x1 : Option Nat) (x2 : Option Nat) (σ : aSt) : Option (Unit × aSt) := (if cu ≤ 4 ∧ su ≤ 4457 then (if aSh (x0) = 5 ∧ x0 < gN σ then f_X5_init_0_15 cu su (x0) (x1) (x2) (sI σ x0 1 (5)) else none) else none)
def f_X5_init_0 (p0 : Nat) (p1 : Option Nat) (p2 : Option Nat) (σ : aSt) : Option (Unit × aSt) := (if aSh (p0) = 5 ∧ p0 < gN σ then f_X5_init_0_10 0 0 (p0) (p1) (p2) (sI σ p0 0 (50)) else none)
abbrev m_X1_init_0 : aM := (yX1_init, cX1_init, 1, none, 2, 80, 0, 0)
def f_X1_init_0_19 (cu : Nat) (su : Nat) (x0 : Nat) (σ : aSt) : Option (Unit × aSt) := (if cu ≤ 0 ∧ su ≤ 0 then (if aSh (x0) = 1 ∧ x0 < gN σ then some ((), (sI σ x0 3 (0))) else none) else none)
def f_X1_init_0_14 (cu : Nat) (su : Nat) (x0 : Nat) (σ : aSt) : Option (Unit × aSt) := (if cu ≤ 0 ∧ su ≤ 0 then (if aSh (x0) = 1 ∧ x0 < gN σ then f_X1_init_0_19 cu su (x0) (sI σ x0 2 (0)) else none) else none)
def f_X1_init_0_9 (cu : Nat) (su : Nat) (x0 : Nat) (σ : aSt) : Option (Unit × aSt) := (if cu ≤ 0 ∧ su ≤ 0 then (if aSh (x0) = 1 ∧ x0 < gN σ then f_X1_init_0_14 cu su (x0) (sI σ x0 1 (0)) else none) else none)
def f_X1_init_0 (p0 : Nat) (σ : aSt) : Option (Unit × aSt) := (if aSh (p0) = 1 ∧ p0 < gN σ then f_X1_init_0_9 0 0 (p0) (sI σ p0 0 (0)) else none)
abbrev m_X0_init_0 : aM := (yX0_init, cX0_init, 1, none, 2, 80, 1, 16)
def f_X0_init_0_27 (cu : Nat) (su : Nat) (x0 : Nat) (σ : aSt) : Option (Unit × aSt) := (if cu ≤ 1 ∧ su ≤ 16 then (if aSh (x0) = 0 ∧ x0 < gN σ then some ((), (sI σ x0 4 (0))) else none) else none)
def f_X0_init_0_22 (cu : Nat) (su : Nat) (x0 : Nat) (σ : aSt) : Option (Unit × aSt) := (if cu ≤ 1 ∧ su ≤ 16 then (if aSh (x0) = 0 ∧ x0 < gN σ then f_X0_init_0_27 cu su (x0) (sI σ x0 3 (0)) else none) else none)
def f_X0_init_0_17 (cu : Nat) (su : Nat) (x0 : Nat) (σ : aSt) : Option (Unit × aSt) := (if cu ≤ 1 ∧ su ≤ 16 then (if aSh (x0) = 0 ∧ x0 < gN σ then f_X0_init_0_22 cu su (x0) (sR σ x0 2 none) else none) else none)
def f_X0_init_0_12 (cu : Nat) (su : Nat) (x0 : Nat) (σ : aSt) : Option (Unit × aSt) := (if cu ≤ 1 ∧ su ≤ 16 then (if aSh (x0) = 0 ∧ x0 < gN σ then f_X0_init_0_17 cu su (x0) (sI σ x0 1 (0)) else none) else none)
def f_X0_init_0 (p0 : Nat) (σ : aSt) : Option (Unit × aSt) := (if aSh (gN σ) = 13 ∧ (16 : Int32).toNatClampNeg = aLn (gN σ) ∧ aLn (gN σ) ≤ 10000 ∧ 0 + 1 ≤ 1 ∧ 0 + aLn (gN σ) ≤ 16 then (if aSh (p0) = 0 ∧ p0 < gN (sN σ) then f_X0_init_0_12 (0 + 1) (0 + aLn (gN σ)) (p0) (sR (sN σ) p0 0 (some ((gN σ)))) else none) else none)
abbrev m_X9_init_0 : aM := (yX9_init, cX9_init, 1, none, 2, 80, 1, 120)
def f_X9_init_0_22 (cu : Nat) (su : Nat) (x0 : Nat) (σ : aSt) : Option (Unit × aSt) := (if cu ≤ 1 ∧ su ≤ 120 then (if aSh (x0) = 9 ∧ x0 < gN σ then some ((), (sI σ x0 3 (0))) else none) else none)
def f_X9_init_0_17 (cu : Nat) (su : Nat) (x0 : Nat) (σ : aSt) : Option (Unit × aSt) := (if cu ≤ 1 ∧ su ≤ 120 then (if aSh (x0) = 9 ∧ x0 < gN σ then f_X9_init_0_22 cu su (x0) (sI σ x0 2 (0)) else none) else none)
def f_X9_init_0_12 (cu : Nat) (su : Nat) (x0 : Nat) (σ : aSt) : Option (Unit × aSt) := (if cu ≤ 1 ∧ su ≤ 120 then (if aSh (x0) = 9 ∧ x0 < gN σ then f_X9_init_0_17 cu su (x0) (sI σ x0 1 (0)) else none) else none)
def f_X9_init_0 (p0 : Nat) (σ : aSt) : Option (Unit × aSt) := (if aSh (gN σ) = 13 ∧ (120 : Int32).toNatClampNeg = aLn (gN σ) ∧ aLn (gN σ) ≤ 10000 ∧ 0 + 1 ≤ 1 ∧ 0 + aLn (gN σ) ≤ 120 then (if aSh (p0) = 9 ∧ p0 < gN (sN σ) then f_X9_init_0_12 (0 + 1) (0 + aLn (gN σ)) (p0) (sR (sN σ) p0 0 (some ((gN σ)))) else none) else none)
abbrev m_X11_init_0 : aM := (yX11_init, cX11_init, 2, none, 5, 144, 56, 10158)
def f_X11_init_0_148 (rec129 : Nat → Nat → Int32 → aSt → Option (Unit × aSt)) (cu : Nat) (su : Nat) (x1 : Int32) (σ : aSt) : Option (Unit × aSt) := (if cu ≤ 56 ∧ su ≤ 10158 then rec129 cu su (x1 + 1) σ else none)
def f_X11_init_0_129_b (rec129 : Nat → Nat → Int32 → aSt → Option (Unit × aSt)) (cu : Nat) (su : Nat) (x1 : Int32) (σ : aSt) : Option (Unit × aSt) := (if cu ≤ 56 ∧ su ≤ 10158 then (if 8 ≤ x1 then some ((), σ) else (if aSh (0) = 11 ∧ 0 < gN σ then (if aSh (gN σ) = 9 ∧ cu + 1 ≤ 56 ∧ su + 4 ≤ 10158 then (if (cu + 1) + 1 ≤ 56 ∧ (su + 4) + 120 ≤ 10158 then (f_X9_init_0 ((gN σ)) (sN σ)).bind (fun q7 => (oC (gR σ 0 0) none (fun a10 => (if aSh (a10) = 16 ∧ a10 < gN q7.2 then (if inB (x1) (aLn (a10)) then (if aSh ((gN σ)) = 9 ∧ (gN σ) < gN q7.2 then f_X11_init_0_148 rec129 ((cu + 1) + 1) ((su + 4) + 120) (x1) (sR q7.2 a10 x1.toNatClampNeg (some ((gN σ)))) else none) else none) else none)))) else none) else none) else none)) else none)
def f_X11_init_0_129  : Nat → Nat → Nat → Int32 → aSt → Option (Unit × aSt)
  | 0 => fun _ _ _ _ => none
  | n + 1 => fun cu su x1 σ => f_X11_init_0_129_b (f_X11_init_0_129  n) cu su x1 σ
def f_X11_init_0_127 (cu : Nat) (su : Nat) (σ : aSt) : Option (Unit × aSt) := (if cu ≤ 56 ∧ su ≤ 10158 then f_X11_init_0_129 aN cu su (0) σ else none)
def f_X11_init_0_122 (cu : Nat) (su : Nat) (σ : aSt) : Option (Unit × aSt) := (if cu ≤ 56 ∧ su ≤ 10158 then (if aSh (0) = 11 ∧ 0 < gN σ then f_X11_init_0_127 cu su (sI σ 0 10 (0)) else none) else none)
def f_X11_init_0_117 (cu : Nat) (su : Nat) (σ : aSt) : Option (Unit × aSt) := (if cu ≤ 56 ∧ su ≤ 10158 then (if aSh (0) = 11 ∧ 0 < gN σ then f_X11_init_0_122 cu su (sI σ 0 9 (0)) else none) else none)
def f_X11_init_0_106 (cu : Nat) (su : Nat) (σ : aSt) : Option (Unit × aSt) := (if cu ≤ 56 ∧ su ≤ 10158 then (if aSh (gN σ) = 8 ∧ cu + 1 ≤ 56 ∧ su + 7 ≤ 10158 then (if (cu + 1) + 6 ≤ 56 ∧ (su + 7) + 172 ≤ 10158 then (f_X8_init_0 ((gN σ)) (sN σ)).bind (fun q19 => (if aSh (0) = 11 ∧ 0 < gN q19.2 then f_X11_init_0_117 ((cu + 1) + 6) ((su + 7) + 172) (sR q19.2 0 8 (some ((gN σ)))) else none)) else none) else none) else none)
def f_X11_init_0_95 (cu : Nat) (su : Nat) (σ : aSt) : Option (Unit × aSt) := (if cu ≤ 56 ∧ su ≤ 10158 then (if aSh (gN σ) = 0 ∧ cu + 1 ≤ 56 ∧ su + 5 ≤ 10158 then (if (cu + 1) + 1 ≤ 56 ∧ (su + 5) + 16 ≤ 10158 then (f_X0_init_0 ((gN σ)) (sN σ)).bind (fun q25 => (if aSh (0) = 11 ∧ 0 < gN q25.2 then f_X11_init_0_106 ((cu + 1) + 1) ((su + 5) + 16) (sR q25.2 0 7 (some ((gN σ)))) else none)) else none) else none) else none)
def f_X11_init_0_84 (cu : Nat) (su : Nat) (σ : aSt) : Option (Unit × aSt) := (if cu ≤ 56 ∧ su ≤ 10158 then (if aSh (gN σ) = 1 ∧ cu + 1 ≤ 56 ∧ su + 4 ≤ 10158 then (f_X1_init_0 ((gN σ)) (sN σ)).bind (fun q31 => (if aSh (0) = 11 ∧ 0 < gN q31.2 then f_X11_init_0_95 (cu + 1) (su + 4) (sR q31.2 0 6 (some ((gN σ)))) else none)) else none) else none)
def f_X11_init_0_65 (cu : Nat) (su : Nat) (σ : aSt) : Option (Unit × aSt) := (if cu ≤ 56 ∧ su ≤ 10158 then (if aSh (gN σ) = 5 ∧ cu + 1 ≤ 56 ∧ su + 13 ≤ 10158 then (if aSh (0) = 11 ∧ 0 < gN (sN σ) then (if (cu + 1) + 4 ≤ 56 ∧ (su + 13) + 4457 ≤ 10158 then (f_X5_init_0 ((gN σ)) (gR (sN σ) 0 1) (gR (sN σ) 0 4) (sN σ)).bind (fun q37 => (if aSh (0) = 11 ∧ 0 < gN q37.2 then f_X11_init_0_84 ((cu + 1) + 4) ((su + 13) + 4457) (sR q37.2 0 5 (some ((gN σ)))) else none)) else none) else none) else none) else none)
def f_X11_init_0_50 (cu : Nat) (su : Nat) (σ : aSt) : Option (Unit × aSt) := (if cu ≤ 56 ∧ su ≤ 10158 then (if aSh (gN σ) = 2 ∧ cu + 1 ≤ 56 ∧ su + 8 ≤ 10158 then (if aSh (0) = 11 ∧ 0 < gN (sN σ) then (if (cu + 1) + 14 ≤ 56 ∧ (su + 8) + 936 ≤ 10158 then (f_X2_init_0 ((gN σ)) (gR (sN σ) 0 1) (sN σ)).bind (fun q44 => (if aSh (0) = 11 ∧ 0 < gN q44.2 then f_X11_init_0_65 ((cu + 1) + 14) ((su + 8) + 936) (sR q44.2 0 4 (some ((gN σ)))) else none)) else none) else none) else none) else none)
def f_X11_init_0_35 (cu : Nat) (su : Nat) (σ : aSt) : Option (Unit × aSt) := (if cu ≤ 56 ∧ su ≤ 10158 then (if aSh (gN σ) = 6 ∧ cu + 1 ≤ 56 ∧ su + 7 ≤ 10158 then (if aSh (0) = 11 ∧ 0 < gN (sN σ) then (f_X6_init_0 ((gN σ)) (gR (sN σ) 0 2) (sN σ)).bind (fun q51 => (if aSh (0) = 11 ∧ 0 < gN q51.2 then f_X11_init_0_50 (cu + 1) (su + 7) (sR q51.2 0 3 (some ((gN σ)))) else none)) else none) else none) else none)
def f_X11_init_0_24 (cu : Nat) (su : Nat) (σ : aSt) : Option (Unit × aSt) := (if cu ≤ 56 ∧ su ≤ 10158 then (if aSh (gN σ) = 10 ∧ cu + 1 ≤ 56 ∧ su + 6 ≤ 10158 then (if (cu + 1) + 4 ≤ 56 ∧ (su + 6) + 2403 ≤ 10158 then (f_X10_init_0 ((gN σ)) (sN σ)).bind (fun q56 => (if aSh (0) = 11 ∧ 0 < gN q56.2 then f_X11_init_0_35 ((cu + 1) + 4) ((su + 6) + 2403) (sR q56.2 0 2 (some ((gN σ)))) else none)) else none) else none) else none)
def f_X11_init_0_13 (cu : Nat) (su : Nat) (σ : aSt) : Option (Unit × aSt) := (if cu ≤ 56 ∧ su ≤ 10158 then (if aSh (gN σ) = 3 ∧ cu + 1 ≤ 56 ∧ su + 4 ≤ 10158 then (if (cu + 1) + 2 ≤ 56 ∧ (su + 4) + 1120 ≤ 10158 then (f_X3_init_0 ((gN σ)) (sN σ)).bind (fun q62 => (if aSh (0) = 11 ∧ 0 < gN q62.2 then f_X11_init_0_24 ((cu + 1) + 2) ((su + 4) + 1120) (sR q62.2 0 1 (some ((gN σ)))) else none)) else none) else none) else none)
def f_X11_init_0 (σ : aSt) : Option (Unit × aSt) := (if aSh (gN σ) = 16 ∧ (8 : Int32).toNatClampNeg = aLn (gN σ) ∧ aLn (gN σ) ≤ 10000 ∧ 0 + 1 ≤ 56 ∧ 0 + aLn (gN σ) ≤ 10158 then (if aSh (0) = 11 ∧ 0 < gN (sN σ) then f_X11_init_0_13 (0 + 1) (0 + aLn (gN σ)) (sR (sN σ) 0 0 (some ((gN σ)))) else none) else none)
abbrev m_X12_init_0 : aM := (yX12_init, cX12_init, 1, none, 2, 80, 26, 4945)
def f_X12_init_0_274 (cu : Nat) (su : Nat) (σ : aSt) : Option (Unit × aSt) := (if cu ≤ 26 ∧ su ≤ 4945 then (if aSh (gN σ) = 13 ∧ (16 : Int32).toNatClampNeg = aLn (gN σ) ∧ aLn (gN σ) ≤ 10000 ∧ cu + 1 ≤ 26 ∧ su + aLn (gN σ) ≤ 4945 then (if aSh (57) = 12 ∧ 57 < gN (sN σ) then some ((), (sR (sN σ) 57 45 (some ((gN σ))))) else none) else none) else none)
def f_X12_init_0_265 (cu : Nat) (su : Nat) (σ : aSt) : Option (Unit × aSt) := (if cu ≤ 26 ∧ su ≤ 4945 then (if aSh (gN σ) = 15 ∧ (1681 : Int32).toNatClampNeg = aLn (gN σ) ∧ aLn (gN σ) ≤ 10000 ∧ cu + 1 ≤ 26 ∧ su + aLn (gN σ) ≤ 4945 then (if aSh (57) = 12 ∧ 57 < gN (sN σ) then f_X12_init_0_274 (cu + 1) (su + aLn (gN σ)) (sR (sN σ) 57 44 (some ((gN σ)))) else none) else none) else none)
def f_X12_init_0_257 (cu : Nat) (su : Nat) (σ : aSt) : Option (Unit × aSt) := (if cu ≤ 26 ∧ su ≤ 4945 then (if aSh (gN σ) = 13 ∧ (120 : Int32).toNatClampNeg = aLn (gN σ) ∧ aLn (gN σ) ≤ 10000 ∧ cu + 1 ≤ 26 ∧ su + aLn (gN σ) ≤ 4945 then (if aSh (57) = 12 ∧ 57 < gN (sN σ) then f_X12_init_0_265 (cu + 1) (su + aLn (gN σ)) (sR (sN σ) 57 43 (some ((gN σ)))) else none) else none) else none)
def f_X12_init_0_241 (cu : Nat) (su : Nat) (σ : aSt) : Option (Unit × aSt) := (if cu ≤ 26 ∧ su ≤ 4945 then (if aSh (gN σ) = 13 ∧ (2 : Int32).toNatClampNeg = aLn (gN σ) ∧ aLn (gN σ) ≤ 10000 ∧ cu + 1 ≤ 26 ∧ su + aLn (gN σ) ≤ 4945 then (if inB (0) (aLn ((gN σ))) then (if inB (1) (aLn ((gN σ))) then (if aSh (57) = 12 ∧ 57 < gN (sI (sI (sN σ) (gN σ) (0 : Int32).toNatClampNeg (50)) (gN σ) (1 : Int32).toNatClampNeg (5)) then f_X12_init_0_257 (cu + 1) (su + aLn (gN σ)) (sR (sI (sI (sN σ) (gN σ) (0 : Int32).toNatClampNeg (50)) (gN σ) (1 : Int32).toNatClampNeg (5)) 57 42 (some ((gN σ)))) else none) else none) else none) else none) else none)
def f_X12_init_0_233 (cu : Nat) (su : Nat) (σ : aSt) : Option (Unit × aSt) := (if cu ≤ 26 ∧ su ≤ 4945 then (if aSh (gN σ) = 13 ∧ (120 : Int32).toNatClampNeg = aLn (gN σ) ∧ aLn (gN σ) ≤ 10000 ∧ cu + 1 ≤ 26 ∧ su + aLn (gN σ) ≤ 4945 then (if aSh (57) = 12 ∧ 57 < gN (sN σ) then f_X12_init_0_241 (cu + 1) (su + aLn (gN σ)) (sR (sN σ) 57 41 (some ((gN σ)))) else none) else none) else none)
def f_X12_init_0_225 (cu : Nat) (su : Nat) (σ : aSt) : Option (Unit × aSt) := (if cu ≤ 26 ∧ su ≤ 4945 then (if aSh (gN σ) = 13 ∧ (120 : Int32).toNatClampNeg = aLn (gN σ) ∧ aLn (gN σ) ≤ 10000 ∧ cu + 1 ≤ 26 ∧ su + aLn (gN σ) ≤ 4945 then (if aSh (57) = 12 ∧ 57 < gN (sN σ) then f_X12_init_0_233 (cu + 1) (su + aLn (gN σ)) (sR (sN σ) 57 39 (some ((gN σ)))) else none) else none) else none)
def f_X12_init_0_216 (cu : Nat) (su : Nat) (σ : aSt) : Option (Unit × aSt) := (if cu ≤ 26 ∧ su ≤ 4945 then (if aSh (gN σ) = 13 ∧ (600 : Int32).toNatClampNeg = aLn (gN σ) ∧ aLn (gN σ) ≤ 10000 ∧ cu + 1 ≤ 26 ∧ su + aLn (gN σ) ≤ 4945 then (if aSh (57) = 12 ∧ 57 < gN (sN σ) then f_X12_init_0_225 (cu + 1) (su + aLn (gN σ)) (sR (sN σ) 57 29 (some ((gN σ)))) else none) else none) else none)
def f_X12_init_0_209 (cu : Nat) (su : Nat) (σ : aSt) : Option (Unit × aSt) := (if cu ≤ 26 ∧ su ≤ 4945 then (if aSh (gN σ) = 13 ∧ (4 : Int32).toNatClampNeg = aLn (gN σ) ∧ aLn (gN σ) ≤ 10000 ∧ cu + 1 ≤ 26 ∧ su + aLn (gN σ) ≤ 4945 then (if aSh (57) = 12 ∧ 57 < gN (sN σ) then f_X12_init_0_216 (cu + 1) (su + aLn (gN σ)) (sR (sN σ) 57 28 (some ((gN σ)))) else none) else none) else none)
def f_X12_init_0_200 (cu : Nat) (su : Nat) (σ : aSt) : Option (Unit × aSt) := (if cu ≤ 26 ∧ su ≤ 4945 then (if aSh (gN σ) = 13 ∧ (144 : Int32).toNatClampNeg = aLn (gN σ) ∧ aLn (gN σ) ≤ 10000 ∧ cu + 1 ≤ 26 ∧ su + aLn (gN σ) ≤ 4945 then (if aSh (57) = 12 ∧ 57 < gN (sN σ) then f_X12_init_0_209 (cu + 1) (su + aLn (gN σ)) (sR (sN σ) 57 27 (some ((gN σ)))) else none) else none) else none)
def f_X12_init_0_192 (cu : Nat) (su : Nat) (σ : aSt) : Option (Unit × aSt) := (if cu ≤ 26 ∧ su ≤ 4945 then (if aSh (gN σ) = 13 ∧ (12 : Int32).toNatClampNeg = aLn (gN σ) ∧ aLn (gN σ) ≤ 10000 ∧ cu + 1 ≤ 26 ∧ su + aLn (gN σ) ≤ 4945 then (if aSh (57) = 12 ∧ 57 < gN (sN σ) then f_X12_init_0_200 (cu + 1) (su + aLn (gN σ)) (sR (sN σ) 57 26 (some ((gN σ)))) else none) else none) else none)
def f_X12_init_0_184 (cu : Nat) (su : Nat) (σ : aSt) : Option (Unit × aSt) := (if cu ≤ 26 ∧ su ≤ 4945 then (if aSh (gN σ) = 13 ∧ (12 : Int32).toNatClampNeg = aLn (gN σ) ∧ aLn (gN σ) ≤ 10000 ∧ cu + 1 ≤ 26 ∧ su + aLn (gN σ) ≤ 4945 then (if aSh (57) = 12 ∧ 57 < gN (sN σ) then f_X12_init_0_192 (cu + 1) (su + aLn (gN σ)) (sR (sN σ) 57 25 (some ((gN σ)))) else none) else none) else none)
def f_X12_init_0_175 (cu : Nat) (su : Nat) (σ : aSt) : Option (Unit × aSt) := (if cu ≤ 26 ∧ su ≤ 4945 then (if aSh (gN σ) = 13 ∧ (144 : Int32).toNatClampNeg = aLn (gN σ) ∧ aLn (gN σ) ≤ 10000 ∧ cu + 1 ≤ 26 ∧ su + aLn (gN σ) ≤ 4945 then (if aSh (57) = 12 ∧ 57 < gN (sN σ) then f_X12_init_0_184 (cu + 1) (su + aLn (gN σ)) (sR (sN σ) 57 23 (some ((gN σ)))) else none) else none) else none)
def f_X12_init_0_167 (cu : Nat) (su : Nat) (σ : aSt) : Option (Unit × aSt) := (if cu ≤ 26 ∧ su ≤ 4945 then (if aSh (gN σ) = 13 ∧ (12 : Int32).toNatClampNeg = aLn (gN σ) ∧ aLn (gN σ) ≤ 10000 ∧ cu + 1 ≤ 26 ∧ su + aLn (gN σ) ≤ 4945 then (if aSh (57) = 12 ∧ 57 < gN (sN σ) then f_X12_init_0_175 (cu + 1) (su + aLn (gN σ)) (sR (sN σ) 57 22 (some ((gN σ)))) else none) else none) else none)
def f_X12_init_0_159 (cu : Nat) (su : Nat) (σ : aSt) : Option (Unit × aSt) := (if cu ≤ 26 ∧ su ≤ 4945 then (if aSh (gN σ) = 13 ∧ (12 : Int32).toNatClampNeg = aLn (gN σ) ∧ aLn (gN σ) ≤ 10000 ∧ cu + 1 ≤ 26 ∧ su + aLn (gN σ) ≤ 4945 then (if aSh (57) = 12 ∧ 57 < gN (sN σ) then f_X12_init_0_167 (cu + 1) (su + aLn (gN σ)) (sR (sN σ) 57 21 (some ((gN σ)))) else none) else none) else none)
def f_X12_init_0_151 (cu : Nat) (su : Nat) (σ : aSt) : Option (Unit × aSt) := (if cu ≤ 26 ∧ su ≤ 4945 then (if aSh (gN σ) = 13 ∧ (10 : Int32).toNatClampNeg = aLn (gN σ) ∧ aLn (gN σ) ≤ 10000 ∧ cu + 1 ≤ 26 ∧ su + aLn (gN σ) ≤ 4945 then (if aSh (57) = 12 ∧ 57 < gN (sN σ) then f_X12_init_0_159 (cu + 1) (su + aLn (gN σ)) (sR (sN σ) 57 19 (some ((gN σ)))) else none) else none) else none)
def f_X12_init_0_145 (cu : Nat) (su : Nat) (σ : aSt) : Option (Unit × aSt) := (if cu ≤ 26 ∧ su ≤ 4945 then (if aSh (57) = 12 ∧ 57 < gN σ then f_X12_init_0_151 cu su (sI σ 57 18 (20)) else none) else none)
def f_X12_init_0_139 (cu : Nat) (su : Nat) (σ : aSt) : Option (Unit × aSt) := (if cu ≤ 26 ∧ su ≤ 4945 then (if aSh (57) = 12 ∧ 57 < gN σ then f_X12_init_0_145 cu su (sI σ 57 17 (10)) else none) else none)
def f_X12_init_0_133 (cu : Nat) (su : Nat) (σ : aSt) : Option (Unit × aSt) := (if cu ≤ 26 ∧ su ≤ 4945 then (if aSh (57) = 12 ∧ 57 < gN σ then f_X12_init_0_139 cu su (sI σ 57 16 (50)) else none) else none)
def f_X12_init_0_127 (cu : Nat) (su : Nat) (σ : aSt) : Option (Unit × aSt) := (if cu ≤ 26 ∧ su ≤ 4945 then (if aSh (57) = 12 ∧ 57 < gN σ then f_X12_init_0_133 cu su (sI σ 57 15 (100)) else none) else none)
def f_X12_init_0_119 (cu : Nat) (su : Nat) (σ : aSt) : Option (Unit × aSt) := (if cu ≤ 26 ∧ su ≤ 4945 then (if aSh (gN σ) = 13 ∧ (120 : Int32).toNatClampNeg = aLn (gN σ) ∧ aLn (gN σ) ≤ 10000 ∧ cu + 1 ≤ 26 ∧ su + aLn (gN σ) ≤ 4945 then (if aSh (57) = 12 ∧ 57 < gN (sN σ) then f_X12_init_0_127 (cu + 1) (su + aLn (gN σ)) (sR (sN σ) 57 13 (some ((gN σ)))) else none) else none) else none)
def f_X12_init_0_111 (cu : Nat) (su : Nat) (σ : aSt) : Option (Unit × aSt) := (if cu ≤ 26 ∧ su ≤ 4945 then (if aSh (gN σ) = 13 ∧ (120 : Int32).toNatClampNeg = aLn (gN σ) ∧ aLn (gN σ) ≤ 10000 ∧ cu + 1 ≤ 26 ∧ su + aLn (gN σ) ≤ 4945 then (if aSh (57) = 12 ∧ 57 < gN (sN σ) then f_X12_init_0_119 (cu + 1) (su + aLn (gN σ)) (sR (sN σ) 57 12 (some ((gN σ)))) else none) else none) else none)
def f_X12_init_0_103 (cu : Nat) (su : Nat) (σ : aSt) : Option (Unit × aSt) := (if cu ≤ 26 ∧ su ≤ 4945 then (if aSh (gN σ) = 13 ∧ (120 : Int32).toNatClampNeg = aLn (gN σ) ∧ aLn (gN σ) ≤ 10000 ∧ cu + 1 ≤ 26 ∧ su + aLn (gN σ) ≤ 4945 then (if aSh (57) = 12 ∧ 57 < gN (sN σ) then f_X12_init_0_111 (cu + 1) (su + aLn (gN σ)) (sR (sN σ) 57 11 (some ((gN σ)))) else none) else none) else none)
def f_X12_init_0_95 (cu : Nat) (su : Nat) (σ : aSt) : Option (Unit × aSt) := (if cu ≤ 26 ∧ su ≤ 4945 then (if aSh (gN σ) = 13 ∧ (120 : Int32).toNatClampNeg = aLn (gN σ) ∧ aLn (gN σ) ≤ 10000 ∧ cu + 1 ≤ 26 ∧ su + aLn (gN σ) ≤ 4945 then (if aSh (57) = 12 ∧ 57 < gN (sN σ) then f_X12_init_0_103 (cu + 1) (su + aLn (gN σ)) (sR (sN σ) 57 10 (some ((gN σ)))) else none) else none) else none)
def f_X12_init_0_87 (cu : Nat) (su : Nat) (σ : aSt) : Option (Unit × aSt) := (if cu ≤ 26 ∧ su ≤ 4945 then (if aSh (gN σ) = 13 ∧ (120 : Int32).toNatClampNeg = aLn (gN σ) ∧ aLn (gN σ) ≤ 10000 ∧ cu + 1 ≤ 26 ∧ su + aLn (gN σ) ≤ 4945 then (if aSh (57) = 12 ∧ 57 < gN (sN σ) then f_X12_init_0_95 (cu + 1) (su + aLn (gN σ)) (sR (sN σ) 57 9 (some ((gN σ)))) else none) else none) else none)
def f_X12_init_0_79 (cu : Nat) (su : Nat) (σ : aSt) : Option (Unit × aSt) := (if cu ≤ 26 ∧ su ≤ 4945 then (if aSh (gN σ) = 13 ∧ (120 : Int32).toNatClampNeg = aLn (gN σ) ∧ aLn (gN σ) ≤ 10000 ∧ cu + 1 ≤ 26 ∧ su + aLn (gN σ) ≤ 4945 then (if aSh (57) = 12 ∧ 57 < gN (sN σ) then f_X12_init_0_87 (cu + 1) (su + aLn (gN σ)) (sR (sN σ) 57 8 (some ((gN σ)))) else none) else none) else none)
def f_X12_init_0_71 (cu : Nat) (su : Nat) (σ : aSt) : Option (Unit × aSt) := (if cu ≤ 26 ∧ su ≤ 4945 then (if aSh (gN σ) = 13 ∧ (120 : Int32).toNatClampNeg = aLn (gN σ) ∧ aLn (gN σ) ≤ 10000 ∧ cu + 1 ≤ 26 ∧ su + aLn (gN σ) ≤ 4945 then (if aSh (57) = 12 ∧ 57 < gN (sN σ) then f_X12_init_0_79 (cu + 1) (su + aLn (gN σ)) (sR (sN σ) 57 7 (some ((gN σ)))) else none) else none) else none)
def f_X12_init_0_63 (cu : Nat) (su : Nat) (σ : aSt) : Option (Unit × aSt) := (if cu ≤ 26 ∧ su ≤ 4945 then (if aSh (gN σ) = 13 ∧ (120 : Int32).toNatClampNeg = aLn (gN σ) ∧ aLn (gN σ) ≤ 10000 ∧ cu + 1 ≤ 26 ∧ su + aLn (gN σ) ≤ 4945 then (if aSh (57) = 12 ∧ 57 < gN (sN σ) then f_X12_init_0_71 (cu + 1) (su + aLn (gN σ)) (sR (sN σ) 57 6 (some ((gN σ)))) else none) else none) else none)
def f_X12_init_0_54 (cu : Nat) (su : Nat) (σ : aSt) : Option (Unit × aSt) := (if cu ≤ 26 ∧ su ≤ 4945 then (if aSh (gN σ) = 13 ∧ (960 : Int32).toNatClampNeg = aLn (gN σ) ∧ aLn (gN σ) ≤ 10000 ∧ cu + 1 ≤ 26 ∧ su + aLn (gN σ) ≤ 4945 then (if aSh (57) = 12 ∧ 57 < gN (sN σ) then f_X12_init_0_63 (cu + 1) (su + aLn (gN σ)) (sR (sN σ) 57 4 (some ((gN σ)))) else none) else none) else none)
def f_X12_init_0_46 (cu : Nat) (su : Nat) (σ : aSt) : Option (Unit × aSt) := (if cu ≤ 26 ∧ su ≤ 4945 then (if aSh (gN σ) = 13 ∧ (8 : Int32).toNatClampNeg = aLn (gN σ) ∧ aLn (gN σ) ≤ 10000 ∧ cu + 1 ≤ 26 ∧ su + aLn (gN σ) ≤ 4945 then (if aSh (57) = 12 ∧ 57 < gN (sN σ) then f_X12_init_0_54 (cu + 1) (su + aLn (gN σ)) (sR (sN σ) 57 3 (some ((gN σ)))) else none) else none) else none)
def f_X12_init_0 (σ : aSt) : Option (Unit × aSt) := (if aSh (gN σ) = 13 ∧ (8 : Int32).toNatClampNeg = aLn (gN σ) ∧ aLn (gN σ) ≤ 10000 ∧ 0 + 1 ≤ 26 ∧ 0 + aLn (gN σ) ≤ 4945 then (if inB (0) (aLn ((gN σ))) then (if inB (1) (aLn ((gN σ))) then (if inB (2) (aLn ((gN σ))) then (if inB (3) (aLn ((gN σ))) then (if inB (4) (aLn ((gN σ))) then (if inB (5) (aLn ((gN σ))) then (if inB (6) (aLn ((gN σ))) then (if inB (7) (aLn ((gN σ))) then (if aSh (57) = 12 ∧ 57 < gN (sI (sI (sI (sI (sI (sI (sI (sI (sN σ) (gN σ) (0 : Int32).toNatClampNeg ((-1))) (gN σ) (1 : Int32).toNatClampNeg ((-1))) (gN σ) (2 : Int32).toNatClampNeg ((-1))) (gN σ) (3 : Int32).toNatClampNeg ((-1))) (gN σ) (4 : Int32).toNatClampNeg ((-1))) (gN σ) (5 : Int32).toNatClampNeg ((-1))) (gN σ) (6 : Int32).toNatClampNeg ((-1))) (gN σ) (7 : Int32).toNatClampNeg ((-1))) then f_X12_init_0_46 (0 + 1) (0 + aLn (gN σ)) (sR (sI (sI (sI (sI (sI (sI (sI (sI (sN σ) (gN σ) (0 : Int32).toNatClampNeg ((-1))) (gN σ) (1 : Int32).toNatClampNeg ((-1))) (gN σ) (2 : Int32).toNatClampNeg ((-1))) (gN σ) (3 : Int32).toNatClampNeg ((-1))) (gN σ) (4 : Int32).toNatClampNeg ((-1))) (gN σ) (5 : Int32).toNatClampNeg ((-1))) (gN σ) (6 : Int32).toNatClampNeg ((-1))) (gN σ) (7 : Int32).toNatClampNeg ((-1))) 57 2 (some ((gN σ)))) else none) else none) else none) else none) else none) else none) else none) else none) else none) else none)
theorem kd_X3_init_0 : aKd m_X3_init_0 0 := ⟨wd_3_4, wd_1_17, ⟨by decide +kernel, by decide +kernel, by decide +kernel⟩⟩
set_option maxRecDepth 100000 in
set_option maxHeartbeats 4000000 in
theorem l_X3_init_0_28  (cu : Nat) (su : Nat) (x0 : Nat) (σ : aSt) (o : Unit × aSt) (h : f_X3_init_0_28  cu su x0 σ = some o) : AW false m_X3_init_0 28 [(0, va_rf (some (x0)))] [] σ cu su none o.2 := by
  unfold f_X3_init_0_28 at h
  replace h := e_grd h; obtain ⟨gcu, h⟩ := h
  refine w_aload_n 0 ((some (x0))) dX3_init_28 rfl rfl ?_
  refine w_iconst (v := 0) dX3_init_29 (by decide) ?_
  replace h := e_grd h; obtain ⟨g3, h⟩ := h
  refine w_putI dX3_init_30 fl_RX3_24 (Or.inl rfl) rfl ⟨g3.1, Or.inl g3.2⟩ ?_
  obtain rfl := Option.some.inj h
  exact w_vreturn dX3_init_33 rfl (by exact gcu.1) (by exact gcu.2)
set_option maxRecDepth 100000 in
set_option maxHeartbeats 4000000 in
theorem l_X3_init_0_23  (cu : Nat) (su : Nat) (x0 : Nat) (σ : aSt) (o : Unit × aSt) (h : f_X3_init_0_23  cu su x0 σ = some o) : AW false m_X3_init_0 23 [(0, va_rf (some (x0)))] [] σ cu su none o.2 := by
  unfold f_X3_init_0_23 at h
  replace h := e_grd h; obtain ⟨gcu, h⟩ := h
  refine w_aload_n 0 ((some (x0))) dX3_init_23 rfl rfl ?_
  refine w_iconst (v := 0) dX3_init_24 (by decide) ?_
  replace h := e_grd h; obtain ⟨g4, h⟩ := h
  refine w_putI dX3_init_25 fl_RX3_20 (Or.inl rfl) rfl ⟨g4.1, Or.inl g4.2⟩ ?_
  exact l_X3_init_0_28 _ _ _ _ _ h
set_option maxRecDepth 100000 in
set_option maxHeartbeats 4000000 in
theorem l_X3_init_0_14  (cu : Nat) (su : Nat) (x0 : Nat) (σ : aSt) (o : Unit × aSt) (h : f_X3_init_0_14  cu su x0 σ = some o) : AW false m_X3_init_0 14 [(0, va_rf (some (x0)))] [] σ cu su none o.2 := by
  unfold f_X3_init_0_14 at h
  replace h := e_grd h; obtain ⟨gcu, h⟩ := h
  refine w_aload_n 0 ((some (x0))) dX3_init_14 rfl rfl ?_
  refine w_bipush (v := 120) dX3_init_15 (by decide) ?_
  replace h := e_grd h; obtain ⟨g5, h⟩ := h
  refine w_anew (kd := 17) (t0 := 0) dX3_init_17 wd_3_6 (Or.inr ⟨rfl, rfl⟩) g5.1 (by decide) g5.2.1 g5.2.2.1 g5.2.2.2.1 g5.2.2.2.2 ?_
  replace h := e_grd h; obtain ⟨g6, h⟩ := h
  refine w_putQ (v := (some ((gN σ)))) dX3_init_20 fl_RX3_17 (Or.inr ⟨rfl, rfl⟩) (Or.inr ⟨rfl, rfl⟩) ⟨g6.1, Or.inl g6.2⟩ (Or.inr ⟨_, rfl⟩) ?_
  exact l_X3_init_0_23 _ _ _ _ _ h
set_option maxRecDepth 100000 in
set_option maxHeartbeats 4000000 in
theorem c_X3_init_0 (p0 : Nat) (σ : aSt) (o : Unit × aSt) (h : f_X3_init_0 p0 σ = some o) : AM false m_X3_init_0 [va_rf (some (p0))] σ none o.2 := by
  refine AM_of2 (lv := [(0, va_rf (some (p0)))]) (by decide +kernel) rfl (Nat.le_of_ble_eq_true rfl) ?_
  unfold f_X3_init_0 at h
  refine w_aload_n 0 ((some (p0))) dX3_init_0 rfl rfl ?_
  refine w_objInit dX3_init_1 wd_3_5 wd_1_11 wd_1_12 (by decide) (by decide) ?_
  refine w_aload_n 0 ((some (p0))) dX3_init_4 rfl rfl ?_
  refine w_sipush (v := 1000) dX3_init_5 (by decide) ?_
  replace h := e_grd h; obtain ⟨g1, h⟩ := h
  refine w_anew (kd := 17) (t0 := 0) dX3_init_8 wd_3_6 (Or.inr ⟨rfl, rfl⟩) g1.1 (by decide) g1.2.1 g1.2.2.1 g1.2.2.2.1 g1.2.2.2.2 ?_
  replace h := e_grd h; obtain ⟨g2, h⟩ := h
  refine w_putQ (v := (some ((gN σ)))) dX3_init_11 fl_RX3_11 (Or.inr ⟨rfl, rfl⟩) (Or.inr ⟨rfl, rfl⟩) ⟨g2.1, Or.inl g2.2⟩ (Or.inr ⟨_, rfl⟩) ?_
  exact l_X3_init_0_14 _ _ _ _ _ h
theorem kd_X10_init_0 : aKd m_X10_init_0 0 := ⟨wd_3_12, wd_1_21, ⟨by decide +kernel, by decide +kernel, by decide +kernel⟩⟩
set_option maxRecDepth 100000 in
set_option maxHeartbeats 4000000 in
theorem l_X10_init_0_45  (cu : Nat) (su : Nat) (x0 : Nat) (σ : aSt) (o : Unit × aSt) (h : f_X10_init_0_45  cu su x0 σ = some o) : AW false m_X10_init_0 45 [(0, va_rf (some (x0)))] [] σ cu su none o.2 := by
  unfold f_X10_init_0_45 at h
  replace h := e_grd h; obtain ⟨gcu, h⟩ := h
  refine w_aload_n 0 ((some (x0))) dX10_init_45 rfl rfl ?_
  refine w_iconst (v := 0) dX10_init_46 (by decide) ?_
  replace h := e_grd h; obtain ⟨g3, h⟩ := h
  refine w_putI dX10_init_47 fl_RX10_27 (Or.inl rfl) rfl ⟨g3.1, Or.inl g3.2⟩ ?_
  obtain rfl := Option.some.inj h
  exact w_vreturn dX10_init_50 rfl (by exact gcu.1) (by exact gcu.2)
set_option maxRecDepth 100000 in
set_option maxHeartbeats 4000000 in
theorem l_X10_init_0_36  (cu : Nat) (su : Nat) (x0 : Nat) (σ : aSt) (o : Unit × aSt) (h : f_X10_init_0_36  cu su x0 σ = some o) : AW false m_X10_init_0 36 [(0, va_rf (some (x0)))] [] σ cu su none o.2 := by
  unfold f_X10_init_0_36 at h
  replace h := e_grd h; obtain ⟨gcu, h⟩ := h
  refine w_aload_n 0 ((some (x0))) dX10_init_36 rfl rfl ?_
  refine w_sipush (v := 600) dX10_init_37 (by decide) ?_
  replace h := e_grd h; obtain ⟨g4, h⟩ := h
  refine w_newa (ty := .byte) (kd := 14) (t0 := 1) dX10_init_40 rfl wd_3_19 (Or.inr (Or.inl ⟨rfl, rfl, rfl⟩)) g4.1 (by decide) g4.2.1 g4.2.2.1 g4.2.2.2.1 g4.2.2.2.2 ?_
  replace h := e_grd h; obtain ⟨g5, h⟩ := h
  refine w_putQ (v := (some ((gN σ)))) dX10_init_42 fl_RX10_23 (Or.inr ⟨rfl, rfl⟩) (Or.inr ⟨rfl, rfl⟩) ⟨g5.1, Or.inl g5.2⟩ (Or.inr ⟨_, rfl⟩) ?_
  exact l_X10_init_0_45 _ _ _ _ _ h
set_option maxRecDepth 100000 in
set_option maxHeartbeats 4000000 in
theorem l_X10_init_0_31  (cu : Nat) (su : Nat) (x0 : Nat) (σ : aSt) (o : Unit × aSt) (h : f_X10_init_0_31  cu su x0 σ = some o) : AW false m_X10_init_0 31 [(0, va_rf (some (x0)))] [] σ cu su none o.2 := by
  unfold f_X10_init_0_31 at h
  replace h := e_grd h; obtain ⟨gcu, h⟩ := h
  refine w_aload_n 0 ((some (x0))) dX10_init_31 rfl rfl ?_
  refine w_iconst (v := 0) dX10_init_32 (by decide) ?_
  replace h := e_grd h; obtain ⟨g6, h⟩ := h
  refine w_putI dX10_init_33 fl_RX10_19 (Or.inl rfl) rfl ⟨g6.1, Or.inl g6.2⟩ ?_
  exact l_X10_init_0_36 _ _ _ _ _ h
set_option maxRecDepth 100000 in
set_option maxHeartbeats 4000000 in
theorem l_X10_init_0_22  (cu : Nat) (su : Nat) (x0 : Nat) (σ : aSt) (o : Unit × aSt) (h : f_X10_init_0_22  cu su x0 σ = some o) : AW false m_X10_init_0 22 [(0, va_rf (some (x0)))] [] σ cu su none o.2 := by
  unfold f_X10_init_0_22 at h
  replace h := e_grd h; obtain ⟨gcu, h⟩ := h
  refine w_aload_n 0 ((some (x0))) dX10_init_22 rfl rfl ?_
  refine w_sipush (v := 601) dX10_init_23 (by decide) ?_
  replace h := e_grd h; obtain ⟨g7, h⟩ := h
  refine w_newa (ty := .int) (kd := 13) (t0 := 0) dX10_init_26 rfl wd_3_14 (Or.inl ⟨rfl, rfl, rfl⟩) g7.1 (by decide) g7.2.1 g7.2.2.1 g7.2.2.2.1 g7.2.2.2.2 ?_
  replace h := e_grd h; obtain ⟨g8, h⟩ := h
  refine w_putQ (v := (some ((gN σ)))) dX10_init_28 fl_RX10_16 (Or.inr ⟨rfl, rfl⟩) (Or.inr ⟨rfl, rfl⟩) ⟨g8.1, Or.inl g8.2⟩ (Or.inr ⟨_, rfl⟩) ?_
  exact l_X10_init_0_31 _ _ _ _ _ h
set_option maxRecDepth 100000 in
set_option maxHeartbeats 4000000 in
theorem l_X10_init_0_13  (cu : Nat) (su : Nat) (x0 : Nat) (σ : aSt) (o : Unit × aSt) (h : f_X10_init_0_13  cu su x0 σ = some o) : AW false m_X10_init_0 13 [(0, va_rf (some (x0)))] [] σ cu su none o.2 := by
  unfold f_X10_init_0_13 at h
  replace h := e_grd h; obtain ⟨gcu, h⟩ := h
  refine w_aload_n 0 ((some (x0))) dX10_init_13 rfl rfl ?_
  refine w_sipush (v := 601) dX10_init_14 (by decide) ?_
  replace h := e_grd h; obtain ⟨g9, h⟩ := h
  refine w_newa (ty := .int) (kd := 13) (t0 := 0) dX10_init_17 rfl wd_3_14 (Or.inl ⟨rfl, rfl, rfl⟩) g9.1 (by decide) g9.2.1 g9.2.2.1 g9.2.2.2.1 g9.2.2.2.2 ?_
  replace h := e_grd h; obtain ⟨g10, h⟩ := h
  refine w_putQ (v := (some ((gN σ)))) dX10_init_19 fl_RX10_13 (Or.inr ⟨rfl, rfl⟩) (Or.inr ⟨rfl, rfl⟩) ⟨g10.1, Or.inl g10.2⟩ (Or.inr ⟨_, rfl⟩) ?_
  exact l_X10_init_0_22 _ _ _ _ _ h
set_option maxRecDepth 100000 in
set_option maxHeartbeats 4000000 in
theorem c_X10_init_0 (p0 : Nat) (σ : aSt) (o : Unit × aSt) (h : f_X10_init_0 p0 σ = some o) : AM false m_X10_init_0 [va_rf (some (p0))] σ none o.2 := by
  refine AM_of2 (lv := [(0, va_rf (some (p0)))]) (by decide +kernel) rfl (Nat.le_of_ble_eq_true rfl) ?_
  unfold f_X10_init_0 at h
  refine w_aload_n 0 ((some (p0))) dX10_init_0 rfl rfl ?_
  refine w_objInit dX10_init_1 wd_3_13 wd_1_11 wd_1_12 (by decide) (by decide) ?_
  refine w_aload_n 0 ((some (p0))) dX10_init_4 rfl rfl ?_
  refine w_sipush (v := 601) dX10_init_5 (by decide) ?_
  replace h := e_grd h; obtain ⟨g1, h⟩ := h
  refine w_newa (ty := .int) (kd := 13) (t0 := 0) dX10_init_8 rfl wd_3_14 (Or.inl ⟨rfl, rfl, rfl⟩) g1.1 (by decide) g1.2.1 g1.2.2.1 g1.2.2.2.1 g1.2.2.2.2 ?_
  replace h := e_grd h; obtain ⟨g2, h⟩ := h
  refine w_putQ (v := (some ((gN σ)))) dX10_init_10 fl_RX10_9 (Or.inr ⟨rfl, rfl⟩) (Or.inr ⟨rfl, rfl⟩) ⟨g2.1, Or.inl g2.2⟩ (Or.inr ⟨_, rfl⟩) ?_
  exact l_X10_init_0_13 _ _ _ _ _ h
theorem kd_X6_init_0 : aKd m_X6_init_0 1 := ⟨wd_4_0, wd_2_1, ⟨by decide +kernel, by decide +kernel, by decide +kernel⟩⟩
set_option maxRecDepth 100000 in
set_option maxHeartbeats 4000000 in
theorem l_X6_init_0_34  (cu : Nat) (su : Nat) (x0 : Nat) (x1 : Option Nat) (σ : aSt) (o : Unit × aSt) (h : f_X6_init_0_34  cu su x0 x1 σ = some o) : AW false m_X6_init_0 34 [(0, va_rf (some (x0))), (1, va_rf (x1))] [] σ cu su none o.2 := by
  unfold f_X6_init_0_34 at h
  replace h := e_grd h; obtain ⟨gcu, h⟩ := h
  refine w_aload_n 0 ((some (x0))) dX6_init_34 rfl rfl ?_
  refine w_aload_n 1 (x1) dX6_init_35 rfl rfl ?_
  replace h := e_grd h; obtain ⟨g2, h⟩ := h
  refine w_putQ (v := x1) dX6_init_36 fl_RX6_33 (Or.inr ⟨rfl, rfl⟩) (Or.inr ⟨rfl, rfl⟩) ⟨g2.1, Or.inl g2.2⟩ (Or.inl ⟨_, rfl⟩) ?_
  obtain rfl := Option.some.inj h
  exact w_vreturn dX6_init_39 rfl (by exact gcu.1) (by exact gcu.2)
set_option maxRecDepth 100000 in
set_option maxHeartbeats 4000000 in
theorem l_X6_init_0_29  (cu : Nat) (su : Nat) (x0 : Nat) (x1 : Option Nat) (σ : aSt) (o : Unit × aSt) (h : f_X6_init_0_29  cu su x0 x1 σ = some o) : AW false m_X6_init_0 29 [(0, va_rf (some (x0))), (1, va_rf (x1))] [] σ cu su none o.2 := by
  unfold f_X6_init_0_29 at h
  replace h := e_grd h; obtain ⟨gcu, h⟩ := h
  refine w_aload_n 0 ((some (x0))) dX6_init_29 rfl rfl ?_
  refine w_iconst (v := 0) dX6_init_30 (by decide) ?_
  replace h := e_grd h; obtain ⟨g3, h⟩ := h
  refine w_putI dX6_init_31 fl_RX6_30 (Or.inl rfl) rfl ⟨g3.1, Or.inl g3.2⟩ ?_
  exact l_X6_init_0_34 _ _ _ _ _ _ h
set_option maxRecDepth 100000 in
set_option maxHeartbeats 4000000 in
theorem l_X6_init_0_24  (cu : Nat) (su : Nat) (x0 : Nat) (x1 : Option Nat) (σ : aSt) (o : Unit × aSt) (h : f_X6_init_0_24  cu su x0 x1 σ = some o) : AW false m_X6_init_0 24 [(0, va_rf (some (x0))), (1, va_rf (x1))] [] σ cu su none o.2 := by
  unfold f_X6_init_0_24 at h
  replace h := e_grd h; obtain ⟨gcu, h⟩ := h
  refine w_aload_n 0 ((some (x0))) dX6_init_24 rfl rfl ?_
  refine w_iconst (v := 4) dX6_init_25 (by decide) ?_
  replace h := e_grd h; obtain ⟨g4, h⟩ := h
  refine w_putI dX6_init_26 fl_RX6_27 (Or.inl rfl) rfl ⟨g4.1, Or.inl g4.2⟩ ?_
  exact l_X6_init_0_29 _ _ _ _ _ _ h
set_option maxRecDepth 100000 in
set_option maxHeartbeats 4000000 in
theorem l_X6_init_0_19  (cu : Nat) (su : Nat) (x0 : Nat) (x1 : Option Nat) (σ : aSt) (o : Unit × aSt) (h : f_X6_init_0_19  cu su x0 x1 σ = some o) : AW false m_X6_init_0 19 [(0, va_rf (some (x0))), (1, va_rf (x1))] [] σ cu su none o.2 := by
  unfold f_X6_init_0_19 at h
  replace h := e_grd h; obtain ⟨gcu, h⟩ := h
  refine w_aload_n 0 ((some (x0))) dX6_init_19 rfl rfl ?_
  refine w_iconst (v := 0) dX6_init_20 (by decide) ?_
  replace h := e_grd h; obtain ⟨g5, h⟩ := h
  refine w_putI dX6_init_21 fl_RX6_22 (Or.inl rfl) rfl ⟨g5.1, Or.inl g5.2⟩ ?_
  exact l_X6_init_0_24 _ _ _ _ _ _ h
set_option maxRecDepth 100000 in
set_option maxHeartbeats 4000000 in
theorem l_X6_init_0_14  (cu : Nat) (su : Nat) (x0 : Nat) (x1 : Option Nat) (σ : aSt) (o : Unit × aSt) (h : f_X6_init_0_14  cu su x0 x1 σ = some o) : AW false m_X6_init_0 14 [(0, va_rf (some (x0))), (1, va_rf (x1))] [] σ cu su none o.2 := by
  unfold f_X6_init_0_14 at h
  replace h := e_grd h; obtain ⟨gcu, h⟩ := h
  refine w_aload_n 0 ((some (x0))) dX6_init_14 rfl rfl ?_
  refine w_null dX6_init_15 ?_
  replace h := e_grd h; obtain ⟨g6, h⟩ := h
  refine w_putQ (v := none) dX6_init_16 fl_RX6_18 (Or.inl rfl) (Or.inl rfl) ⟨g6.1, Or.inl g6.2⟩ (Or.inl ⟨_, rfl⟩) ?_
  exact l_X6_init_0_19 _ _ _ _ _ _ h
set_option maxRecDepth 100000 in
set_option maxHeartbeats 4000000 in
theorem l_X6_init_0_9  (cu : Nat) (su : Nat) (x0 : Nat) (x1 : Option Nat) (σ : aSt) (o : Unit × aSt) (h : f_X6_init_0_9  cu su x0 x1 σ = some o) : AW false m_X6_init_0 9 [(0, va_rf (some (x0))), (1, va_rf (x1))] [] σ cu su none o.2 := by
  unfold f_X6_init_0_9 at h
  replace h := e_grd h; obtain ⟨gcu, h⟩ := h
  refine w_aload_n 0 ((some (x0))) dX6_init_9 rfl rfl ?_
  refine w_iconst (v := 0) dX6_init_10 (by decide) ?_
  replace h := e_grd h; obtain ⟨g7, h⟩ := h
  refine w_putI dX6_init_11 fl_RX6_15 (Or.inl rfl) rfl ⟨g7.1, Or.inl g7.2⟩ ?_
  exact l_X6_init_0_14 _ _ _ _ _ _ h
set_option maxRecDepth 100000 in
set_option maxHeartbeats 4000000 in
theorem c_X6_init_0 (p0 : Nat) (p1 : Option Nat) (σ : aSt) (o : Unit × aSt) (h : f_X6_init_0 p0 p1 σ = some o) : AM false m_X6_init_0 [va_rf (some (p0)), va_rf (p1)] σ none o.2 := by
  refine AM_of2 (lv := [(0, va_rf (some (p0))), (1, va_rf (p1))]) (by decide +kernel) (by simp [lv_args, aRf_cat, aI_cat, aL_cat]) (by simp [lg_sl, aRf_cat, aI_cat, aL_cat]) ?_
  unfold f_X6_init_0 at h
  refine w_aload_n 0 ((some (p0))) dX6_init_0 rfl rfl ?_
  refine w_objInit dX6_init_1 wd_4_1 wd_1_11 wd_1_12 (by decide) (by decide) ?_
  refine w_aload_n 0 ((some (p0))) dX6_init_4 rfl rfl ?_
  refine w_iconst (v := 0) dX6_init_5 (by decide) ?_
  replace h := e_grd h; obtain ⟨g1, h⟩ := h
  refine w_putI dX6_init_6 fl_RX6_9 (Or.inl rfl) rfl ⟨g1.1, Or.inl g1.2⟩ ?_
  exact l_X6_init_0_9 _ _ _ _ _ _ h
theorem kd_X8_clear_0 : aKd m_X8_clear_0 0 := ⟨wd_5_17, wd_2_21, ⟨by decide +kernel, by decide +kernel, by decide +kernel⟩⟩
set_option maxRecDepth 100000 in
set_option maxHeartbeats 4000000 in
theorem l_X8_clear_0_32  (x0 : Nat) (σ : aSt) (o : Unit × aSt) (h : f_X8_clear_0_32  x0 σ = some o) : AW false m_X8_clear_0 32 [(0, va_rf (some (x0)))] [] σ 0 0 none o.2 := by
  unfold f_X8_clear_0_32 at h
  refine w_aload_n 0 ((some (x0))) dX8_clear_32 rfl rfl ?_
  refine w_iconst (v := 0) dX8_clear_33 (by decide) ?_
  replace h := e_grd h; obtain ⟨g6, h⟩ := h
  refine w_putI dX8_clear_34 fl_RX8_15 (Or.inl rfl) rfl ⟨g6.1, Or.inl g6.2⟩ ?_
  obtain rfl := Option.some.inj h
  exact w_vreturn dX8_clear_37 rfl (Nat.le_of_ble_eq_true rfl) (Nat.le_of_ble_eq_true rfl)
set_option maxRecDepth 100000 in
set_option maxHeartbeats 4000000 in
theorem l_X8_clear_0_24  (x0 : Nat) (σ : aSt) (o : Unit × aSt) (h : f_X8_clear_0_24  x0 σ = some o) : AW false m_X8_clear_0 24 [(0, va_rf (some (x0)))] [] σ 0 0 none o.2 := by
  unfold f_X8_clear_0_24 at h
  refine w_aload_n 0 ((some (x0))) dX8_clear_24 rfl rfl ?_
  replace h := e_grd h; obtain ⟨g7, h⟩ := h
  refine w_get dX8_clear_25 fl_RX8_11 ⟨g7.1, Or.inl g7.2⟩ (aFv_q (Or.inr ⟨rfl, rfl⟩)) ?_
  refine w_iconst (v := 3) dX8_clear_28 (by decide) ?_
  refine w_bipush (v := 20) dX8_clear_29 (by decide) ?_
  replace h := e_oS h; obtain ⟨a8, r9, h⟩ := h
  rw [r9]
  replace h := e_grd h; obtain ⟨g10, h⟩ := h
  replace h := e_grd h; obtain ⟨b11, h⟩ := h
  refine w_iastore dX8_clear_31 ⟨g10.1, Or.inl g10.2⟩ b11 ?_
  exact l_X8_clear_0_32 _ _ _ h
set_option maxRecDepth 100000 in
set_option maxHeartbeats 4000000 in
theorem l_X8_clear_0_16  (x0 : Nat) (σ : aSt) (o : Unit × aSt) (h : f_X8_clear_0_16  x0 σ = some o) : AW false m_X8_clear_0 16 [(0, va_rf (some (x0)))] [] σ 0 0 none o.2 := by
  unfold f_X8_clear_0_16 at h
  refine w_aload_n 0 ((some (x0))) dX8_clear_16 rfl rfl ?_
  replace h := e_grd h; obtain ⟨g12, h⟩ := h
  refine w_get dX8_clear_17 fl_RX8_11 ⟨g12.1, Or.inl g12.2⟩ (aFv_q (Or.inr ⟨rfl, rfl⟩)) ?_
  refine w_iconst (v := 2) dX8_clear_20 (by decide) ?_
  refine w_bipush (v := 10) dX8_clear_21 (by decide) ?_
  replace h := e_oS h; obtain ⟨a13, r14, h⟩ := h
  rw [r14]
  replace h := e_grd h; obtain ⟨g15, h⟩ := h
  replace h := e_grd h; obtain ⟨b16, h⟩ := h
  refine w_iastore dX8_clear_23 ⟨g15.1, Or.inl g15.2⟩ b16 ?_
  exact l_X8_clear_0_24 _ _ _ h
set_option maxRecDepth 100000 in
set_option maxHeartbeats 4000000 in
theorem l_X8_clear_0_8  (x0 : Nat) (σ : aSt) (o : Unit × aSt) (h : f_X8_clear_0_8  x0 σ = some o) : AW false m_X8_clear_0 8 [(0, va_rf (some (x0)))] [] σ 0 0 none o.2 := by
  unfold f_X8_clear_0_8 at h
  refine w_aload_n 0 ((some (x0))) dX8_clear_8 rfl rfl ?_
  replace h := e_grd h; obtain ⟨g17, h⟩ := h
  refine w_get dX8_clear_9 fl_RX8_11 ⟨g17.1, Or.inl g17.2⟩ (aFv_q (Or.inr ⟨rfl, rfl⟩)) ?_
  refine w_iconst (v := 1) dX8_clear_12 (by decide) ?_
  refine w_bipush (v := 50) dX8_clear_13 (by decide) ?_
  replace h := e_oS h; obtain ⟨a18, r19, h⟩ := h
  rw [r19]
  replace h := e_grd h; obtain ⟨g20, h⟩ := h
  replace h := e_grd h; obtain ⟨b21, h⟩ := h
  refine w_iastore dX8_clear_15 ⟨g20.1, Or.inl g20.2⟩ b21 ?_
  exact l_X8_clear_0_16 _ _ _ h
set_option maxRecDepth 100000 in
set_option maxHeartbeats 4000000 in
theorem c_X8_clear_0 (p0 : Nat) (σ : aSt) (o : Unit × aSt) (h : f_X8_clear_0 p0 σ = some o) : AM false m_X8_clear_0 [va_rf (some (p0))] σ none o.2 := by
  refine AM_of2 (lv := [(0, va_rf (some (p0)))]) (by decide +kernel) rfl (Nat.le_of_ble_eq_true rfl) ?_
  unfold f_X8_clear_0 at h
  refine w_aload_n 0 ((some (p0))) dX8_clear_0 rfl rfl ?_
  replace h := e_grd h; obtain ⟨g1, h⟩ := h
  refine w_get dX8_clear_1 fl_RX8_11 ⟨g1.1, Or.inl g1.2⟩ (aFv_q (Or.inr ⟨rfl, rfl⟩)) ?_
  refine w_iconst (v := 0) dX8_clear_4 (by decide) ?_
  refine w_bipush (v := 100) dX8_clear_5 (by decide) ?_
  replace h := e_oS h; obtain ⟨a2, r3, h⟩ := h
  rw [r3]
  replace h := e_grd h; obtain ⟨g4, h⟩ := h
  replace h := e_grd h; obtain ⟨b5, h⟩ := h
  refine w_iastore dX8_clear_7 ⟨g4.1, Or.inl g4.2⟩ b5 ?_
  exact l_X8_clear_0_8 _ _ _ h
theorem kd_X8_init_0 : aKd m_X8_init_0 0 := ⟨wd_5_5, wd_2_21, ⟨by decide +kernel, by decide +kernel, by decide +kernel⟩⟩
set_option maxRecDepth 100000 in
set_option maxHeartbeats 4000000 in
theorem l_X8_init_0_56  (cu : Nat) (su : Nat) (x0 : Nat) (σ : aSt) (o : Unit × aSt) (h : f_X8_init_0_56  cu su x0 σ = some o) : AW false m_X8_init_0 56 [(0, va_rf (some (x0)))] [] σ cu su none o.2 := by
  unfold f_X8_init_0_56 at h
  replace h := e_grd h; obtain ⟨gcu, h⟩ := h
  refine w_aload_n 0 ((some (x0))) dX8_init_56 rfl rfl ?_
  replace h := e_grd h; obtain ⟨g5, h⟩ := h
  replace h := e_bind h; obtain ⟨q3, e4, h⟩ := h
  refine w_callV0 (M2 := m_X8_clear_0) (av := []) (ci := 8) (c_X8_clear_0 _ _ _ e4) dX8_init_57 kd_X8_clear_0 wd_5_14 wd_5_15 wd_5_16 rfl rfl ⟨g5.1, Or.inl g5.2⟩ rfl ⟨Nat.le_of_ble_eq_true rfl, Nat.le_of_ble_eq_true rfl, by exact gcu.1, by exact gcu.2⟩ (Nat.le_of_ble_eq_true rfl) ?_
  obtain rfl := Option.some.inj h
  exact w_vreturn dX8_init_60 rfl (by exact gcu.1) (by exact gcu.2)
set_option maxRecDepth 100000 in
set_option maxHeartbeats 4000000 in
theorem l_X8_init_0_48  (cu : Nat) (su : Nat) (x0 : Nat) (σ : aSt) (o : Unit × aSt) (h : f_X8_init_0_48  cu su x0 σ = some o) : AW false m_X8_init_0 48 [(0, va_rf (some (x0)))] [] σ cu su none o.2 := by
  unfold f_X8_init_0_48 at h
  replace h := e_grd h; obtain ⟨gcu, h⟩ := h
  refine w_aload_n 0 ((some (x0))) dX8_init_48 rfl rfl ?_
  refine w_bipush (v := 48) dX8_init_49 (by decide) ?_
  replace h := e_grd h; obtain ⟨g6, h⟩ := h
  refine w_newa (ty := .int) (kd := 13) (t0 := 0) dX8_init_51 rfl wd_3_14 (Or.inl ⟨rfl, rfl, rfl⟩) g6.1 (by decide) g6.2.1 g6.2.2.1 g6.2.2.2.1 g6.2.2.2.2 ?_
  replace h := e_grd h; obtain ⟨g7, h⟩ := h
  refine w_putQ (v := (some ((gN σ)))) dX8_init_53 fl_RX8_31 (Or.inr ⟨rfl, rfl⟩) (Or.inr ⟨rfl, rfl⟩) ⟨g7.1, Or.inl g7.2⟩ (Or.inr ⟨_, rfl⟩) ?_
  exact l_X8_init_0_56 _ _ _ _ _ h
set_option maxRecDepth 100000 in
set_option maxHeartbeats 4000000 in
theorem l_X8_init_0_40  (cu : Nat) (su : Nat) (x0 : Nat) (σ : aSt) (o : Unit × aSt) (h : f_X8_init_0_40  cu su x0 σ = some o) : AW false m_X8_init_0 40 [(0, va_rf (some (x0)))] [] σ cu su none o.2 := by
  unfold f_X8_init_0_40 at h
  replace h := e_grd h; obtain ⟨gcu, h⟩ := h
  refine w_aload_n 0 ((some (x0))) dX8_init_40 rfl rfl ?_
  refine w_bipush (v := 48) dX8_init_41 (by decide) ?_
  replace h := e_grd h; obtain ⟨g8, h⟩ := h
  refine w_newa (ty := .int) (kd := 13) (t0 := 0) dX8_init_43 rfl wd_3_14 (Or.inl ⟨rfl, rfl, rfl⟩) g8.1 (by decide) g8.2.1 g8.2.2.1 g8.2.2.2.1 g8.2.2.2.2 ?_
  replace h := e_grd h; obtain ⟨g9, h⟩ := h
  refine w_putQ (v := (some ((gN σ)))) dX8_init_45 fl_RX8_28 (Or.inr ⟨rfl, rfl⟩) (Or.inr ⟨rfl, rfl⟩) ⟨g9.1, Or.inl g9.2⟩ (Or.inr ⟨_, rfl⟩) ?_
  exact l_X8_init_0_48 _ _ _ _ _ h
set_option maxRecDepth 100000 in
set_option maxHeartbeats 4000000 in
theorem l_X8_init_0_32  (cu : Nat) (su : Nat) (x0 : Nat) (σ : aSt) (o : Unit × aSt) (h : f_X8_init_0_32  cu su x0 σ = some o) : AW false m_X8_init_0 32 [(0, va_rf (some (x0)))] [] σ cu su none o.2 := by
  unfold f_X8_init_0_32 at h
  replace h := e_grd h; obtain ⟨gcu, h⟩ := h
  refine w_aload_n 0 ((some (x0))) dX8_init_32 rfl rfl ?_
  refine w_bipush (v := 48) dX8_init_33 (by decide) ?_
  replace h := e_grd h; obtain ⟨g10, h⟩ := h
  refine w_newa (ty := .int) (kd := 13) (t0 := 0) dX8_init_35 rfl wd_3_14 (Or.inl ⟨rfl, rfl, rfl⟩) g10.1 (by decide) g10.2.1 g10.2.2.1 g10.2.2.2.1 g10.2.2.2.2 ?_
  replace h := e_grd h; obtain ⟨g11, h⟩ := h
  refine w_putQ (v := (some ((gN σ)))) dX8_init_37 fl_RX8_25 (Or.inr ⟨rfl, rfl⟩) (Or.inr ⟨rfl, rfl⟩) ⟨g11.1, Or.inl g11.2⟩ (Or.inr ⟨_, rfl⟩) ?_
  exact l_X8_init_0_40 _ _ _ _ _ h
set_option maxRecDepth 100000 in
set_option maxHeartbeats 4000000 in
theorem l_X8_init_0_24  (cu : Nat) (su : Nat) (x0 : Nat) (σ : aSt) (o : Unit × aSt) (h : f_X8_init_0_24  cu su x0 σ = some o) : AW false m_X8_init_0 24 [(0, va_rf (some (x0)))] [] σ cu su none o.2 := by
  unfold f_X8_init_0_24 at h
  replace h := e_grd h; obtain ⟨gcu, h⟩ := h
  refine w_aload_n 0 ((some (x0))) dX8_init_24 rfl rfl ?_
  refine w_bipush (v := 12) dX8_init_25 (by decide) ?_
  replace h := e_grd h; obtain ⟨g12, h⟩ := h
  refine w_newa (ty := .int) (kd := 13) (t0 := 0) dX8_init_27 rfl wd_3_14 (Or.inl ⟨rfl, rfl, rfl⟩) g12.1 (by decide) g12.2.1 g12.2.2.1 g12.2.2.2.1 g12.2.2.2.2 ?_
  replace h := e_grd h; obtain ⟨g13, h⟩ := h
  refine w_putQ (v := (some ((gN σ)))) dX8_init_29 fl_RX8_22 (Or.inr ⟨rfl, rfl⟩) (Or.inr ⟨rfl, rfl⟩) ⟨g13.1, Or.inl g13.2⟩ (Or.inr ⟨_, rfl⟩) ?_
  exact l_X8_init_0_32 _ _ _ _ _ h
set_option maxRecDepth 100000 in
set_option maxHeartbeats 4000000 in
theorem l_X8_init_0_16  (cu : Nat) (su : Nat) (x0 : Nat) (σ : aSt) (o : Unit × aSt) (h : f_X8_init_0_16  cu su x0 σ = some o) : AW false m_X8_init_0 16 [(0, va_rf (some (x0)))] [] σ cu su none o.2 := by
  unfold f_X8_init_0_16 at h
  replace h := e_grd h; obtain ⟨gcu, h⟩ := h
  refine w_aload_n 0 ((some (x0))) dX8_init_16 rfl rfl ?_
  refine w_bipush (v := 12) dX8_init_17 (by decide) ?_
  replace h := e_grd h; obtain ⟨g14, h⟩ := h
  refine w_newa (ty := .int) (kd := 13) (t0 := 0) dX8_init_19 rfl wd_3_14 (Or.inl ⟨rfl, rfl, rfl⟩) g14.1 (by decide) g14.2.1 g14.2.2.1 g14.2.2.2.1 g14.2.2.2.2 ?_
  replace h := e_grd h; obtain ⟨g15, h⟩ := h
  refine w_putQ (v := (some ((gN σ)))) dX8_init_21 fl_RX8_19 (Or.inr ⟨rfl, rfl⟩) (Or.inr ⟨rfl, rfl⟩) ⟨g15.1, Or.inl g15.2⟩ (Or.inr ⟨_, rfl⟩) ?_
  exact l_X8_init_0_24 _ _ _ _ _ h
set_option maxRecDepth 100000 in
set_option maxHeartbeats 4000000 in
theorem l_X8_init_0_11  (cu : Nat) (su : Nat) (x0 : Nat) (σ : aSt) (o : Unit × aSt) (h : f_X8_init_0_11  cu su x0 σ = some o) : AW false m_X8_init_0 11 [(0, va_rf (some (x0)))] [] σ cu su none o.2 := by
  unfold f_X8_init_0_11 at h
  replace h := e_grd h; obtain ⟨gcu, h⟩ := h
  refine w_aload_n 0 ((some (x0))) dX8_init_11 rfl rfl ?_
  refine w_iconst (v := 0) dX8_init_12 (by decide) ?_
  replace h := e_grd h; obtain ⟨g16, h⟩ := h
  refine w_putI dX8_init_13 fl_RX8_15 (Or.inl rfl) rfl ⟨g16.1, Or.inl g16.2⟩ ?_
  exact l_X8_init_0_16 _ _ _ _ _ h
set_option maxRecDepth 100000 in
set_option maxHeartbeats 4000000 in
theorem c_X8_init_0 (p0 : Nat) (σ : aSt) (o : Unit × aSt) (h : f_X8_init_0 p0 σ = some o) : AM false m_X8_init_0 [va_rf (some (p0))] σ none o.2 := by
  refine AM_of2 (lv := [(0, va_rf (some (p0)))]) (by decide +kernel) rfl (Nat.le_of_ble_eq_true rfl) ?_
  unfold f_X8_init_0 at h
  refine w_aload_n 0 ((some (p0))) dX8_init_0 rfl rfl ?_
  refine w_objInit dX8_init_1 wd_5_6 wd_1_11 wd_1_12 (by decide) (by decide) ?_
  refine w_aload_n 0 ((some (p0))) dX8_init_4 rfl rfl ?_
  refine w_iconst (v := 4) dX8_init_5 (by decide) ?_
  replace h := e_grd h; obtain ⟨g1, h⟩ := h
  refine w_newa (ty := .int) (kd := 13) (t0 := 0) dX8_init_6 rfl wd_3_14 (Or.inl ⟨rfl, rfl, rfl⟩) g1.1 (by decide) g1.2.1 g1.2.2.1 g1.2.2.2.1 g1.2.2.2.2 ?_
  replace h := e_grd h; obtain ⟨g2, h⟩ := h
  refine w_putQ (v := (some ((gN σ)))) dX8_init_8 fl_RX8_11 (Or.inr ⟨rfl, rfl⟩) (Or.inr ⟨rfl, rfl⟩) ⟨g2.1, Or.inl g2.2⟩ (Or.inr ⟨_, rfl⟩) ?_
  exact l_X8_init_0_11 _ _ _ _ _ h
theorem kd_X7_init_0 : aKd m_X7_init_0 0 := ⟨wd_5_19, wd_4_20, ⟨by decide +kernel, by decide +kernel, by decide +kernel⟩⟩
set_option maxRecDepth 100000 in
set_option maxHeartbeats 4000000 in
theorem l_X7_init_0_40  (cu : Nat) (su : Nat) (x0 : Nat) (σ : aSt) (o : Unit × aSt) (h : f_X7_init_0_40  cu su x0 σ = some o) : AW false m_X7_init_0 40 [(0, va_rf (some (x0)))] [] σ cu su none o.2 := by
  unfold f_X7_init_0_40 at h
  replace h := e_grd h; obtain ⟨gcu, h⟩ := h
  refine w_aload_n 0 ((some (x0))) dX7_init_40 rfl rfl ?_
  refine w_iconst (v := 0) dX7_init_41 (by decide) ?_
  replace h := e_grd h; obtain ⟨g3, h⟩ := h
  refine w_putI dX7_init_42 fl_RX7_31 (Or.inl rfl) rfl ⟨g3.1, Or.inl g3.2⟩ ?_
  obtain rfl := Option.some.inj h
  exact w_vreturn dX7_init_45 rfl (by exact gcu.1) (by exact gcu.2)
set_option maxRecDepth 100000 in
set_option maxHeartbeats 4000000 in
theorem l_X7_init_0_35  (cu : Nat) (su : Nat) (x0 : Nat) (σ : aSt) (o : Unit × aSt) (h : f_X7_init_0_35  cu su x0 σ = some o) : AW false m_X7_init_0 35 [(0, va_rf (some (x0)))] [] σ cu su none o.2 := by
  unfold f_X7_init_0_35 at h
  replace h := e_grd h; obtain ⟨gcu, h⟩ := h
  refine w_aload_n 0 ((some (x0))) dX7_init_35 rfl rfl ?_
  refine w_iconst (v := 0) dX7_init_36 (by decide) ?_
  replace h := e_grd h; obtain ⟨g4, h⟩ := h
  refine w_putI dX7_init_37 fl_RX7_28 (Or.inl rfl) rfl ⟨g4.1, Or.inl g4.2⟩ ?_
  exact l_X7_init_0_40 _ _ _ _ _ h
set_option maxRecDepth 100000 in
set_option maxHeartbeats 4000000 in
theorem l_X7_init_0_30  (cu : Nat) (su : Nat) (x0 : Nat) (σ : aSt) (o : Unit × aSt) (h : f_X7_init_0_30  cu su x0 σ = some o) : AW false m_X7_init_0 30 [(0, va_rf (some (x0)))] [] σ cu su none o.2 := by
  unfold f_X7_init_0_30 at h
  replace h := e_grd h; obtain ⟨gcu, h⟩ := h
  refine w_aload_n 0 ((some (x0))) dX7_init_30 rfl rfl ?_
  refine w_iconst (v := 0) dX7_init_31 (by decide) ?_
  replace h := e_grd h; obtain ⟨g5, h⟩ := h
  refine w_putI dX7_init_32 fl_RX7_25 (Or.inl rfl) rfl ⟨g5.1, Or.inl g5.2⟩ ?_
  exact l_X7_init_0_35 _ _ _ _ _ h
set_option maxRecDepth 100000 in
set_option maxHeartbeats 4000000 in
theorem l_X7_init_0_25  (cu : Nat) (su : Nat) (x0 : Nat) (σ : aSt) (o : Unit × aSt) (h : f_X7_init_0_25  cu su x0 σ = some o) : AW false m_X7_init_0 25 [(0, va_rf (some (x0)))] [] σ cu su none o.2 := by
  unfold f_X7_init_0_25 at h
  replace h := e_grd h; obtain ⟨gcu, h⟩ := h
  refine w_aload_n 0 ((some (x0))) dX7_init_25 rfl rfl ?_
  refine w_iconst (v := 0) dX7_init_26 (by decide) ?_
  replace h := e_grd h; obtain ⟨g6, h⟩ := h
  refine w_putI dX7_init_27 fl_RX7_22 (Or.inl rfl) rfl ⟨g6.1, Or.inl g6.2⟩ ?_
  exact l_X7_init_0_30 _ _ _ _ _ h
set_option maxRecDepth 100000 in
set_option maxHeartbeats 4000000 in
theorem l_X7_init_0_17  (cu : Nat) (su : Nat) (x0 : Nat) (σ : aSt) (o : Unit × aSt) (h : f_X7_init_0_17  cu su x0 σ = some o) : AW false m_X7_init_0 17 [(0, va_rf (some (x0)))] [] σ cu su none o.2 := by
  unfold f_X7_init_0_17 at h
  replace h := e_grd h; obtain ⟨gcu, h⟩ := h
  refine w_aload_n 0 ((some (x0))) dX7_init_17 rfl rfl ?_
  refine w_bipush (v := 20) dX7_init_18 (by decide) ?_
  replace h := e_grd h; obtain ⟨g7, h⟩ := h
  refine w_newa (ty := .int) (kd := 13) (t0 := 0) dX7_init_20 rfl wd_3_14 (Or.inl ⟨rfl, rfl, rfl⟩) g7.1 (by decide) g7.2.1 g7.2.2.1 g7.2.2.2.1 g7.2.2.2.2 ?_
  replace h := e_grd h; obtain ⟨g8, h⟩ := h
  refine w_putQ (v := (some ((gN σ)))) dX7_init_22 fl_RX7_19 (Or.inr ⟨rfl, rfl⟩) (Or.inr ⟨rfl, rfl⟩) ⟨g8.1, Or.inl g8.2⟩ (Or.inr ⟨_, rfl⟩) ?_
  exact l_X7_init_0_25 _ _ _ _ _ h
set_option maxRecDepth 100000 in
set_option maxHeartbeats 4000000 in
theorem l_X7_init_0_12  (cu : Nat) (su : Nat) (x0 : Nat) (σ : aSt) (o : Unit × aSt) (h : f_X7_init_0_12  cu su x0 σ = some o) : AW false m_X7_init_0 12 [(0, va_rf (some (x0)))] [] σ cu su none o.2 := by
  unfold f_X7_init_0_12 at h
  replace h := e_grd h; obtain ⟨gcu, h⟩ := h
  refine w_aload_n 0 ((some (x0))) dX7_init_12 rfl rfl ?_
  refine w_iconst (v := 0) dX7_init_13 (by decide) ?_
  replace h := e_grd h; obtain ⟨g9, h⟩ := h
  refine w_putI dX7_init_14 fl_RX7_15 (Or.inl rfl) rfl ⟨g9.1, Or.inl g9.2⟩ ?_
  exact l_X7_init_0_17 _ _ _ _ _ h
set_option maxRecDepth 100000 in
set_option maxHeartbeats 4000000 in
theorem c_X7_init_0 (p0 : Nat) (σ : aSt) (o : Unit × aSt) (h : f_X7_init_0 p0 σ = some o) : AM false m_X7_init_0 [va_rf (some (p0))] σ none o.2 := by
  refine AM_of2 (lv := [(0, va_rf (some (p0)))]) (by decide +kernel) rfl (Nat.le_of_ble_eq_true rfl) ?_
  unfold f_X7_init_0 at h
  refine w_aload_n 0 ((some (p0))) dX7_init_0 rfl rfl ?_
  refine w_objInit dX7_init_1 wd_5_20 wd_1_11 wd_1_12 (by decide) (by decide) ?_
  refine w_aload_n 0 ((some (p0))) dX7_init_4 rfl rfl ?_
  refine w_bipush (v := 10) dX7_init_5 (by decide) ?_
  replace h := e_grd h; obtain ⟨g1, h⟩ := h
  refine w_newa (ty := .int) (kd := 13) (t0 := 0) dX7_init_7 rfl wd_3_14 (Or.inl ⟨rfl, rfl, rfl⟩) g1.1 (by decide) g1.2.1 g1.2.2.1 g1.2.2.2.1 g1.2.2.2.2 ?_
  replace h := e_grd h; obtain ⟨g2, h⟩ := h
  refine w_putQ (v := (some ((gN σ)))) dX7_init_9 fl_RX7_11 (Or.inr ⟨rfl, rfl⟩) (Or.inr ⟨rfl, rfl⟩) ⟨g2.1, Or.inl g2.2⟩ (Or.inr ⟨_, rfl⟩) ?_
  exact l_X7_init_0_12 _ _ _ _ _ h
theorem kd_J7_fill_53178_0 : aKd m_J7_fill_53178_0 2 := ⟨wd_6_11, wd_6_10, ⟨by decide +kernel, by decide +kernel, by decide +kernel⟩⟩
set_option maxRecDepth 100000 in
set_option maxHeartbeats 4000000 in
theorem l_J7_fill_53178_0_14 (rec5 : Nat → Int32 → Int32 → Int32 → aSt → Option (Unit × aSt)) (hrec5 : ∀ (x0 : Nat) (x1 : Int32) (x2 : Int32) (x3 : Int32) (σ : aSt) (o : Unit × aSt), rec5 x0 x1 x2 x3 σ = some o → AW false m_J7_fill_53178_0 5 [(0, va_rf (some (x0))), (1, Value.int (x1)), (2, Value.int (x2)), (3, Value.int (x3))] [] σ 0 0 none o.2) (x0 : Nat) (x1 : Int32) (x2 : Int32) (x3 : Int32) (σ : aSt) (o : Unit × aSt) (h : f_J7_fill_53178_0_14 rec5 x0 x1 x2 x3 σ = some o) : AW false m_J7_fill_53178_0 14 [(0, va_rf (some (x0))), (1, Value.int (x1)), (2, Value.int (x2)), (3, Value.int (x3))] [] σ 0 0 none o.2 := by
  unfold f_J7_fill_53178_0_14 at h
  refine w_iinc (q := 2) (v := x2 + 1) dJ7_fill_53178_14 rfl rfl (by decide) rfl ?_
  refine w_goto 5 dJ7_fill_53178_17 (by decide) ?_
  refine w_sub [1, 2, 0, 3] rfl ?_
  exact hrec5 _ _ _ _ _ _ h
set_option maxRecDepth 100000 in
set_option maxHeartbeats 4000000 in
theorem l_J7_fill_53178_0_5_b (rec5 : Nat → Int32 → Int32 → Int32 → aSt → Option (Unit × aSt)) (hrec5 : ∀ (x0 : Nat) (x1 : Int32) (x2 : Int32) (x3 : Int32) (σ : aSt) (o : Unit × aSt), rec5 x0 x1 x2 x3 σ = some o → AW false m_J7_fill_53178_0 5 [(0, va_rf (some (x0))), (1, Value.int (x1)), (2, Value.int (x2)), (3, Value.int (x3))] [] σ 0 0 none o.2) (x0 : Nat) (x1 : Int32) (x2 : Int32) (x3 : Int32) (σ : aSt) (o : Unit × aSt) (h : f_J7_fill_53178_0_5_b rec5 x0 x1 x2 x3 σ = some o) : AW false m_J7_fill_53178_0 5 [(0, va_rf (some (x0))), (1, Value.int (x1)), (2, Value.int (x2)), (3, Value.int (x3))] [] σ 0 0 none o.2 := by
  unfold f_J7_fill_53178_0_5_b at h
  refine w_iload_n 2 dJ7_fill_53178_5 rfl rfl ?_
  refine w_iload_n 3 dJ7_fill_53178_6 rfl rfl ?_
  refine w_icmp_ge 20 dJ7_fill_53178_7 (by decide) (fun c4 => ?_) (fun c4 => ?_)
  · replace h := e_t c4 h
    obtain rfl := Option.some.inj h
    exact w_vreturn dJ7_fill_53178_20 rfl (Nat.le_of_ble_eq_true rfl) (Nat.le_of_ble_eq_true rfl)
  · replace h := e_f c4 h
    refine w_aload_n 0 ((some (x0))) dJ7_fill_53178_10 rfl rfl ?_
    refine w_iload_n 2 dJ7_fill_53178_11 rfl rfl ?_
    refine w_iload_n 1 dJ7_fill_53178_12 rfl rfl ?_
    replace h := e_grd h; obtain ⟨g5, h⟩ := h
    replace h := e_grd h; obtain ⟨b6, h⟩ := h
    refine w_iastore dJ7_fill_53178_13 ⟨g5.1, Or.inl g5.2⟩ b6 ?_
    exact l_J7_fill_53178_0_14 rec5 hrec5 _ _ _ _ _ _ h
theorem l_J7_fill_53178_0_5  : ∀ (n : Nat) (x0 : Nat) (x1 : Int32) (x2 : Int32) (x3 : Int32) (σ : aSt) (o : Unit × aSt), f_J7_fill_53178_0_5  n x0 x1 x2 x3 σ = some o → AW false m_J7_fill_53178_0 5 [(0, va_rf (some (x0))), (1, Value.int (x1)), (2, Value.int (x2)), (3, Value.int (x3))] [] σ 0 0 none o.2
  | 0 => fun x0 x1 x2 x3 σ o h => by cases h
  | n + 1 => fun x0 x1 x2 x3 σ o h => l_J7_fill_53178_0_5_b (f_J7_fill_53178_0_5  n) (l_J7_fill_53178_0_5  n) x0 x1 x2 x3 σ o h
set_option maxRecDepth 100000 in
set_option maxHeartbeats 4000000 in
theorem c_J7_fill_53178_0 (p0 : Option Nat) (p1 : Int32) (σ : aSt) (o : Unit × aSt) (h : f_J7_fill_53178_0 p0 p1 σ = some o) : AM false m_J7_fill_53178_0 [va_rf (p0), .int (p1)] σ none o.2 := by
  refine AM_of2 (lv := [(0, va_rf (p0)), (1, Value.int (p1))]) (by decide +kernel) (by simp [lv_args, aRf_cat, aI_cat, aL_cat]) (by simp [lg_sl, aRf_cat, aI_cat, aL_cat]) ?_
  unfold f_J7_fill_53178_0 at h
  refine w_iconst (v := 0) dJ7_fill_53178_0 (by decide) ?_
  refine w_istore_n dJ7_fill_53178_1 rfl (by decide) rfl ?_
  refine w_aload_n 1 (p0) dJ7_fill_53178_2 rfl rfl ?_
  replace h := e_oS h; obtain ⟨a1, r2, h⟩ := h
  rw [r2]
  replace h := e_grd h; obtain ⟨g3, h⟩ := h
  refine w_alenI dJ7_fill_53178_3 ⟨g3.1, Or.inl g3.2⟩ ?_
  refine w_istore_n dJ7_fill_53178_4 rfl (by decide) rfl ?_
  refine w_sub [2, 3, 1, 0] rfl ?_
  exact l_J7_fill_53178_0_5 aN _ _ _ _ _ _ h
theorem kd_X2_forget_0 : aKd m_X2_forget_0 0 := ⟨wd_6_7, wd_2_5, ⟨by decide +kernel, by decide +kernel, by decide +kernel⟩⟩
set_option maxRecDepth 100000 in
set_option maxHeartbeats 4000000 in
theorem c_X2_forget_0 (p0 : Nat) (σ : aSt) (o : Unit × aSt) (h : f_X2_forget_0 p0 σ = some o) : AM false m_X2_forget_0 [va_rf (some (p0))] σ none o.2 := by
  refine AM_of2 (lv := [(0, va_rf (some (p0)))]) (by decide +kernel) rfl (Nat.le_of_ble_eq_true rfl) ?_
  unfold f_X2_forget_0 at h
  refine w_aload_n 0 ((some (p0))) dX2_forget_0 rfl rfl ?_
  replace h := e_grd h; obtain ⟨g1, h⟩ := h
  refine w_get dX2_forget_1 fl_RX2_35 ⟨g1.1, Or.inl g1.2⟩ (aFv_q (Or.inr ⟨rfl, rfl⟩)) ?_
  refine w_iconst (v := (-1)) dX2_forget_4 (by decide) ?_
  replace h := e_bind h; obtain ⟨q2, e3, h⟩ := h
  refine w_callS0 (M2 := m_J7_fill_53178_0) (av := [va_rf (gR σ p0 5), .int ((-1))]) (c_J7_fill_53178_0 _ _ _ _ e3) dX2_forget_5 kd_J7_fill_53178_0 wd_6_8 wd_6_9 rfl rfl ⟨Nat.le_of_ble_eq_true rfl, Nat.le_of_ble_eq_true rfl, Nat.le_of_ble_eq_true rfl, Nat.le_of_ble_eq_true rfl⟩ (Nat.le_of_ble_eq_true rfl) ?_
  obtain rfl := Option.some.inj h
  exact w_vreturn dX2_forget_8 rfl (Nat.le_of_ble_eq_true rfl) (Nat.le_of_ble_eq_true rfl)
theorem kd_X2_init_0 : aKd m_X2_init_0 1 := ⟨wd_4_11, wd_2_5, ⟨by decide +kernel, by decide +kernel, by decide +kernel⟩⟩
set_option maxRecDepth 100000 in
set_option maxHeartbeats 4000000 in
theorem l_X2_init_0_71  (cu : Nat) (su : Nat) (x0 : Nat) (σ : aSt) (o : Unit × aSt) (h : f_X2_init_0_71  cu su x0 σ = some o) : AW false m_X2_init_0 71 [(0, va_rf (some (x0)))] [] σ cu su none o.2 := by
  unfold f_X2_init_0_71 at h
  replace h := e_grd h; obtain ⟨gcu, h⟩ := h
  refine w_aload_n 0 ((some (x0))) dX2_init_71 rfl rfl ?_
  replace h := e_grd h; obtain ⟨g9, h⟩ := h
  replace h := e_bind h; obtain ⟨q7, e8, h⟩ := h
  refine w_callV0 (M2 := m_X2_forget_0) (av := []) (ci := 2) (c_X2_forget_0 _ _ _ e8) dX2_init_72 kd_X2_forget_0 wd_6_4 wd_6_5 wd_6_6 rfl rfl ⟨g9.1, Or.inl g9.2⟩ rfl ⟨Nat.le_of_ble_eq_true rfl, Nat.le_of_ble_eq_true rfl, by exact gcu.1, by exact gcu.2⟩ (Nat.le_of_ble_eq_true rfl) ?_
  obtain rfl := Option.some.inj h
  exact w_vreturn dX2_init_75 rfl (by exact gcu.1) (by exact gcu.2)
set_option maxRecDepth 100000 in
set_option maxHeartbeats 4000000 in
theorem l_X2_init_0_66  (cu : Nat) (su : Nat) (x0 : Nat) (x1 : Option Nat) (σ : aSt) (o : Unit × aSt) (h : f_X2_init_0_66  cu su x0 x1 σ = some o) : AW false m_X2_init_0 66 [(0, va_rf (some (x0))), (1, va_rf (x1))] [] σ cu su none o.2 := by
  unfold f_X2_init_0_66 at h
  replace h := e_grd h; obtain ⟨gcu, h⟩ := h
  refine w_aload_n 0 ((some (x0))) dX2_init_66 rfl rfl ?_
  refine w_aload_n 1 (x1) dX2_init_67 rfl rfl ?_
  replace h := e_grd h; obtain ⟨g10, h⟩ := h
  refine w_putQ (v := x1) dX2_init_68 fl_RX2_46 (Or.inr ⟨rfl, rfl⟩) (Or.inr ⟨rfl, rfl⟩) ⟨g10.1, Or.inl g10.2⟩ (Or.inl ⟨_, rfl⟩) ?_
  refine w_sub [0] rfl ?_
  exact l_X2_init_0_71 _ _ _ _ _ h
set_option maxRecDepth 100000 in
set_option maxHeartbeats 4000000 in
theorem l_X2_init_0_58  (cu : Nat) (su : Nat) (x0 : Nat) (x1 : Option Nat) (σ : aSt) (o : Unit × aSt) (h : f_X2_init_0_58  cu su x0 x1 σ = some o) : AW false m_X2_init_0 58 [(0, va_rf (some (x0))), (1, va_rf (x1))] [] σ cu su none o.2 := by
  unfold f_X2_init_0_58 at h
  replace h := e_grd h; obtain ⟨gcu, h⟩ := h
  refine w_aload_n 0 ((some (x0))) dX2_init_58 rfl rfl ?_
  refine w_bipush (v := 120) dX2_init_59 (by decide) ?_
  replace h := e_grd h; obtain ⟨g11, h⟩ := h
  refine w_newa (ty := .long) (kd := 15) (t0 := 2) dX2_init_61 rfl wd_5_0 (Or.inr (Or.inr ⟨rfl, rfl, rfl⟩)) g11.1 (by decide) g11.2.1 g11.2.2.1 g11.2.2.2.1 g11.2.2.2.2 ?_
  replace h := e_grd h; obtain ⟨g12, h⟩ := h
  refine w_putQ (v := (some ((gN σ)))) dX2_init_63 fl_RX2_42 (Or.inr ⟨rfl, rfl⟩) (Or.inr ⟨rfl, rfl⟩) ⟨g12.1, Or.inl g12.2⟩ (Or.inr ⟨_, rfl⟩) ?_
  exact l_X2_init_0_66 _ _ _ _ _ _ h
set_option maxRecDepth 100000 in
set_option maxHeartbeats 4000000 in
theorem l_X2_init_0_49  (cu : Nat) (su : Nat) (x0 : Nat) (x1 : Option Nat) (σ : aSt) (o : Unit × aSt) (h : f_X2_init_0_49  cu su x0 x1 σ = some o) : AW false m_X2_init_0 49 [(0, va_rf (some (x0))), (1, va_rf (x1))] [] σ cu su none o.2 := by
  unfold f_X2_init_0_49 at h
  replace h := e_grd h; obtain ⟨gcu, h⟩ := h
  refine w_aload_n 0 ((some (x0))) dX2_init_49 rfl rfl ?_
  refine w_sipush (v := 240) dX2_init_50 (by decide) ?_
  replace h := e_grd h; obtain ⟨g13, h⟩ := h
  refine w_newa (ty := .int) (kd := 13) (t0 := 0) dX2_init_53 rfl wd_3_14 (Or.inl ⟨rfl, rfl, rfl⟩) g13.1 (by decide) g13.2.1 g13.2.2.1 g13.2.2.2.1 g13.2.2.2.2 ?_
  replace h := e_grd h; obtain ⟨g14, h⟩ := h
  refine w_putQ (v := (some ((gN σ)))) dX2_init_55 fl_RX2_39 (Or.inr ⟨rfl, rfl⟩) (Or.inr ⟨rfl, rfl⟩) ⟨g14.1, Or.inl g14.2⟩ (Or.inr ⟨_, rfl⟩) ?_
  exact l_X2_init_0_58 _ _ _ _ _ _ h
set_option maxRecDepth 100000 in
set_option maxHeartbeats 4000000 in
theorem l_X2_init_0_40  (cu : Nat) (su : Nat) (x0 : Nat) (x1 : Option Nat) (σ : aSt) (o : Unit × aSt) (h : f_X2_init_0_40  cu su x0 x1 σ = some o) : AW false m_X2_init_0 40 [(0, va_rf (some (x0))), (1, va_rf (x1))] [] σ cu su none o.2 := by
  unfold f_X2_init_0_40 at h
  replace h := e_grd h; obtain ⟨gcu, h⟩ := h
  refine w_aload_n 0 ((some (x0))) dX2_init_40 rfl rfl ?_
  refine w_sipush (v := 240) dX2_init_41 (by decide) ?_
  replace h := e_grd h; obtain ⟨g15, h⟩ := h
  refine w_newa (ty := .int) (kd := 13) (t0 := 0) dX2_init_44 rfl wd_3_14 (Or.inl ⟨rfl, rfl, rfl⟩) g15.1 (by decide) g15.2.1 g15.2.2.1 g15.2.2.2.1 g15.2.2.2.2 ?_
  replace h := e_grd h; obtain ⟨g16, h⟩ := h
  refine w_putQ (v := (some ((gN σ)))) dX2_init_46 fl_RX2_35 (Or.inr ⟨rfl, rfl⟩) (Or.inr ⟨rfl, rfl⟩) ⟨g16.1, Or.inl g16.2⟩ (Or.inr ⟨_, rfl⟩) ?_
  exact l_X2_init_0_49 _ _ _ _ _ _ h
set_option maxRecDepth 100000 in
set_option maxHeartbeats 4000000 in
theorem l_X2_init_0_29  (cu : Nat) (su : Nat) (x0 : Nat) (x1 : Option Nat) (σ : aSt) (o : Unit × aSt) (h : f_X2_init_0_29  cu su x0 x1 σ = some o) : AW false m_X2_init_0 29 [(0, va_rf (some (x0))), (1, va_rf (x1))] [] σ cu su none o.2 := by
  unfold f_X2_init_0_29 at h
  replace h := e_grd h; obtain ⟨gcu, h⟩ := h
  refine w_aload_n 0 ((some (x0))) dX2_init_29 rfl rfl ?_
  replace h := e_grd h; obtain ⟨g17, h⟩ := h
  refine w_new dX2_init_30 cl_RX2_28_0 g17.1 g17.2.1 g17.2.2 ?_
  refine w_dup dX2_init_33 (aRf_cat _) ?_
  replace h := e_grd h; obtain ⟨g21, h⟩ := h
  replace h := e_bind h; obtain ⟨q19, e20, h⟩ := h
  refine w_callIN (M2 := m_X7_init_0) (av := []) (host := RX11) (c_X7_init_0 _ _ _ e20) dX2_init_34 kd_X7_init_0 rfl rfl (by decide +kernel) wd_5_18 rfl rfl ⟨Nat.le_of_ble_eq_true rfl, Nat.le_of_ble_eq_true rfl, g21.1, g21.2⟩ (Nat.le_of_ble_eq_true rfl) ?_
  replace h := e_grd h; obtain ⟨g22, h⟩ := h
  refine w_putQ (v := (some ((gN σ)))) dX2_init_37 fl_RX2_31 (Or.inr ⟨rfl, rfl⟩) (Or.inr ⟨rfl, rfl⟩) ⟨g22.1, Or.inl g22.2⟩ (Or.inl ⟨_, rfl⟩) ?_
  exact l_X2_init_0_40 _ _ _ _ _ _ h
set_option maxRecDepth 100000 in
set_option maxHeartbeats 4000000 in
theorem l_X2_init_0_24  (cu : Nat) (su : Nat) (x0 : Nat) (x1 : Option Nat) (σ : aSt) (o : Unit × aSt) (h : f_X2_init_0_24  cu su x0 x1 σ = some o) : AW false m_X2_init_0 24 [(0, va_rf (some (x0))), (1, va_rf (x1))] [] σ cu su none o.2 := by
  unfold f_X2_init_0_24 at h
  replace h := e_grd h; obtain ⟨gcu, h⟩ := h
  refine w_aload_n 0 ((some (x0))) dX2_init_24 rfl rfl ?_
  refine w_iconst (v := 0) dX2_init_25 (by decide) ?_
  replace h := e_grd h; obtain ⟨g23, h⟩ := h
  refine w_putI dX2_init_26 fl_RX2_24 (Or.inl rfl) rfl ⟨g23.1, Or.inl g23.2⟩ ?_
  exact l_X2_init_0_29 _ _ _ _ _ _ h
set_option maxRecDepth 100000 in
set_option maxHeartbeats 4000000 in
theorem l_X2_init_0_15  (cu : Nat) (su : Nat) (x0 : Nat) (x1 : Option Nat) (σ : aSt) (o : Unit × aSt) (h : f_X2_init_0_15  cu su x0 x1 σ = some o) : AW false m_X2_init_0 15 [(0, va_rf (some (x0))), (1, va_rf (x1))] [] σ cu su none o.2 := by
  unfold f_X2_init_0_15 at h
  replace h := e_grd h; obtain ⟨gcu, h⟩ := h
  refine w_aload_n 0 ((some (x0))) dX2_init_15 rfl rfl ?_
  refine w_bipush (v := 120) dX2_init_16 (by decide) ?_
  replace h := e_grd h; obtain ⟨g24, h⟩ := h
  refine w_anew (kd := 17) (t0 := 0) dX2_init_18 wd_4_15 (Or.inr ⟨rfl, rfl⟩) g24.1 (by decide) g24.2.1 g24.2.2.1 g24.2.2.2.1 g24.2.2.2.2 ?_
  replace h := e_grd h; obtain ⟨g25, h⟩ := h
  refine w_putQ (v := (some ((gN σ)))) dX2_init_21 fl_RX2_20 (Or.inr ⟨rfl, rfl⟩) (Or.inr ⟨rfl, rfl⟩) ⟨g25.1, Or.inl g25.2⟩ (Or.inr ⟨_, rfl⟩) ?_
  exact l_X2_init_0_24 _ _ _ _ _ _ h
set_option maxRecDepth 100000 in
set_option maxHeartbeats 4000000 in
theorem c_X2_init_0 (p0 : Nat) (p1 : Option Nat) (σ : aSt) (o : Unit × aSt) (h : f_X2_init_0 p0 p1 σ = some o) : AM false m_X2_init_0 [va_rf (some (p0)), va_rf (p1)] σ none o.2 := by
  refine AM_of2 (lv := [(0, va_rf (some (p0))), (1, va_rf (p1))]) (by decide +kernel) (by simp [lv_args, aRf_cat, aI_cat, aL_cat]) (by simp [lg_sl, aRf_cat, aI_cat, aL_cat]) ?_
  unfold f_X2_init_0 at h
  refine w_aload_n 0 ((some (p0))) dX2_init_0 rfl rfl ?_
  refine w_objInit dX2_init_1 wd_4_12 wd_1_11 wd_1_12 (by decide) (by decide) ?_
  refine w_aload_n 0 ((some (p0))) dX2_init_4 rfl rfl ?_
  replace h := e_grd h; obtain ⟨g1, h⟩ := h
  refine w_new dX2_init_5 cl_RX2_9_0 g1.1 g1.2.1 g1.2.2 ?_
  refine w_dup dX2_init_8 (aRf_cat _) ?_
  replace h := e_grd h; obtain ⟨g5, h⟩ := h
  replace h := e_bind h; obtain ⟨q3, e4, h⟩ := h
  refine w_callI (M2 := m_X8_init_0) (av := []) (c_X8_init_0 _ _ _ e4) dX2_init_9 kd_X8_init_0 rfl rfl wd_5_3 wd_5_4 rfl rfl ⟨Nat.le_of_ble_eq_true rfl, Nat.le_of_ble_eq_true rfl, g5.1, g5.2⟩ (Nat.le_of_ble_eq_true rfl) ?_
  replace h := e_grd h; obtain ⟨g6, h⟩ := h
  refine w_putQ (v := (some ((gN σ)))) dX2_init_12 fl_RX2_12 (Or.inl rfl) (Or.inl rfl) ⟨g6.1, Or.inl g6.2⟩ (Or.inl ⟨_, rfl⟩) ?_
  exact l_X2_init_0_15 _ _ _ _ _ _ h
theorem kd_X5_init_0 : aKd m_X5_init_0 2 := ⟨wd_6_14, wd_2_9, ⟨by decide +kernel, by decide +kernel, by decide +kernel⟩⟩
set_option maxRecDepth 100000 in
set_option maxHeartbeats 4000000 in
theorem l_X5_init_0_78  (cu : Nat) (su : Nat) (x0 : Nat) (x2 : Option Nat) (σ : aSt) (o : Unit × aSt) (h : f_X5_init_0_78  cu su x0 x2 σ = some o) : AW false m_X5_init_0 78 [(0, va_rf (some (x0))), (2, va_rf (x2))] [] σ cu su none o.2 := by
  unfold f_X5_init_0_78 at h
  replace h := e_grd h; obtain ⟨gcu, h⟩ := h
  refine w_aload_n 0 ((some (x0))) dX5_init_78 rfl rfl ?_
  refine w_aload_n 1 (x2) dX5_init_79 rfl rfl ?_
  replace h := e_grd h; obtain ⟨g2, h⟩ := h
  refine w_putQ (v := x2) dX5_init_80 fl_RX5_53 (Or.inr ⟨rfl, rfl⟩) (Or.inr ⟨rfl, rfl⟩) ⟨g2.1, Or.inl g2.2⟩ (Or.inl ⟨_, rfl⟩) ?_
  obtain rfl := Option.some.inj h
  exact w_vreturn dX5_init_83 rfl (by exact gcu.1) (by exact gcu.2)
set_option maxRecDepth 100000 in
set_option maxHeartbeats 4000000 in
theorem l_X5_init_0_73  (cu : Nat) (su : Nat) (x0 : Nat) (x1 : Option Nat) (x2 : Option Nat) (σ : aSt) (o : Unit × aSt) (h : f_X5_init_0_73  cu su x0 x1 x2 σ = some o) : AW false m_X5_init_0 73 [(0, va_rf (some (x0))), (1, va_rf (x1)), (2, va_rf (x2))] [] σ cu su none o.2 := by
  unfold f_X5_init_0_73 at h
  replace h := e_grd h; obtain ⟨gcu, h⟩ := h
  refine w_aload_n 0 ((some (x0))) dX5_init_73 rfl rfl ?_
  refine w_aload_n 1 (x1) dX5_init_74 rfl rfl ?_
  replace h := e_grd h; obtain ⟨g3, h⟩ := h
  refine w_putQ (v := x1) dX5_init_75 fl_RX5_49 (Or.inr ⟨rfl, rfl⟩) (Or.inr ⟨rfl, rfl⟩) ⟨g3.1, Or.inl g3.2⟩ (Or.inl ⟨_, rfl⟩) ?_
  refine w_sub [0, 2] rfl ?_
  exact l_X5_init_0_78 _ _ _ _ _ _ h
set_option maxRecDepth 100000 in
set_option maxHeartbeats 4000000 in
theorem l_X5_init_0_64  (cu : Nat) (su : Nat) (x0 : Nat) (x1 : Option Nat) (x2 : Option Nat) (σ : aSt) (o : Unit × aSt) (h : f_X5_init_0_64  cu su x0 x1 x2 σ = some o) : AW false m_X5_init_0 64 [(0, va_rf (some (x0))), (1, va_rf (x1)), (2, va_rf (x2))] [] σ cu su none o.2 := by
  unfold f_X5_init_0_64 at h
  replace h := e_grd h; obtain ⟨gcu, h⟩ := h
  refine w_aload_n 0 ((some (x0))) dX5_init_64 rfl rfl ?_
  refine w_sipush (v := 4096) dX5_init_65 (by decide) ?_
  replace h := e_grd h; obtain ⟨g4, h⟩ := h
  refine w_newa (ty := .int) (kd := 13) (t0 := 0) dX5_init_68 rfl wd_3_14 (Or.inl ⟨rfl, rfl, rfl⟩) g4.1 (by decide) g4.2.1 g4.2.2.1 g4.2.2.2.1 g4.2.2.2.2 ?_
  replace h := e_grd h; obtain ⟨g5, h⟩ := h
  refine w_putQ (v := (some ((gN σ)))) dX5_init_70 fl_RX5_46 (Or.inr ⟨rfl, rfl⟩) (Or.inr ⟨rfl, rfl⟩) ⟨g5.1, Or.inl g5.2⟩ (Or.inr ⟨_, rfl⟩) ?_
  exact l_X5_init_0_73 _ _ _ _ _ _ _ h
set_option maxRecDepth 100000 in
set_option maxHeartbeats 4000000 in
theorem l_X5_init_0_59  (cu : Nat) (su : Nat) (x0 : Nat) (x1 : Option Nat) (x2 : Option Nat) (σ : aSt) (o : Unit × aSt) (h : f_X5_init_0_59  cu su x0 x1 x2 σ = some o) : AW false m_X5_init_0 59 [(0, va_rf (some (x0))), (1, va_rf (x1)), (2, va_rf (x2))] [] σ cu su none o.2 := by
  unfold f_X5_init_0_59 at h
  replace h := e_grd h; obtain ⟨gcu, h⟩ := h
  refine w_aload_n 0 ((some (x0))) dX5_init_59 rfl rfl ?_
  refine w_iconst (v := 0) dX5_init_60 (by decide) ?_
  replace h := e_grd h; obtain ⟨g6, h⟩ := h
  refine w_putI dX5_init_61 fl_RX5_41 (Or.inl rfl) rfl ⟨g6.1, Or.inl g6.2⟩ ?_
  exact l_X5_init_0_64 _ _ _ _ _ _ _ h
set_option maxRecDepth 100000 in
set_option maxHeartbeats 4000000 in
theorem l_X5_init_0_51  (cu : Nat) (su : Nat) (x0 : Nat) (x1 : Option Nat) (x2 : Option Nat) (σ : aSt) (o : Unit × aSt) (h : f_X5_init_0_51  cu su x0 x1 x2 σ = some o) : AW false m_X5_init_0 51 [(0, va_rf (some (x0))), (1, va_rf (x1)), (2, va_rf (x2))] [] σ cu su none o.2 := by
  unfold f_X5_init_0_51 at h
  replace h := e_grd h; obtain ⟨gcu, h⟩ := h
  refine w_aload_n 0 ((some (x0))) dX5_init_51 rfl rfl ?_
  refine w_bipush (v := 121) dX5_init_52 (by decide) ?_
  replace h := e_grd h; obtain ⟨g7, h⟩ := h
  refine w_newa (ty := .int) (kd := 13) (t0 := 0) dX5_init_54 rfl wd_3_14 (Or.inl ⟨rfl, rfl, rfl⟩) g7.1 (by decide) g7.2.1 g7.2.2.1 g7.2.2.2.1 g7.2.2.2.2 ?_
  replace h := e_grd h; obtain ⟨g8, h⟩ := h
  refine w_putQ (v := (some ((gN σ)))) dX5_init_56 fl_RX5_38 (Or.inr ⟨rfl, rfl⟩) (Or.inr ⟨rfl, rfl⟩) ⟨g8.1, Or.inl g8.2⟩ (Or.inr ⟨_, rfl⟩) ?_
  exact l_X5_init_0_59 _ _ _ _ _ _ _ h
set_option maxRecDepth 100000 in
set_option maxHeartbeats 4000000 in
theorem l_X5_init_0_46  (cu : Nat) (su : Nat) (x0 : Nat) (x1 : Option Nat) (x2 : Option Nat) (σ : aSt) (o : Unit × aSt) (h : f_X5_init_0_46  cu su x0 x1 x2 σ = some o) : AW false m_X5_init_0 46 [(0, va_rf (some (x0))), (1, va_rf (x1)), (2, va_rf (x2))] [] σ cu su none o.2 := by
  unfold f_X5_init_0_46 at h
  replace h := e_grd h; obtain ⟨gcu, h⟩ := h
  refine w_aload_n 0 ((some (x0))) dX5_init_46 rfl rfl ?_
  refine w_iconst (v := 0) dX5_init_47 (by decide) ?_
  replace h := e_grd h; obtain ⟨g9, h⟩ := h
  refine w_putI dX5_init_48 fl_RX5_35 (Or.inl rfl) rfl ⟨g9.1, Or.inl g9.2⟩ ?_
  exact l_X5_init_0_51 _ _ _ _ _ _ _ h
set_option maxRecDepth 100000 in
set_option maxHeartbeats 4000000 in
theorem l_X5_init_0_38  (cu : Nat) (su : Nat) (x0 : Nat) (x1 : Option Nat) (x2 : Option Nat) (σ : aSt) (o : Unit × aSt) (h : f_X5_init_0_38  cu su x0 x1 x2 σ = some o) : AW false m_X5_init_0 38 [(0, va_rf (some (x0))), (1, va_rf (x1)), (2, va_rf (x2))] [] σ cu su none o.2 := by
  unfold f_X5_init_0_38 at h
  replace h := e_grd h; obtain ⟨gcu, h⟩ := h
  refine w_aload_n 0 ((some (x0))) dX5_init_38 rfl rfl ?_
  refine w_bipush (v := 120) dX5_init_39 (by decide) ?_
  replace h := e_grd h; obtain ⟨g10, h⟩ := h
  refine w_newa (ty := .int) (kd := 13) (t0 := 0) dX5_init_41 rfl wd_3_14 (Or.inl ⟨rfl, rfl, rfl⟩) g10.1 (by decide) g10.2.1 g10.2.2.1 g10.2.2.2.1 g10.2.2.2.2 ?_
  replace h := e_grd h; obtain ⟨g11, h⟩ := h
  refine w_putQ (v := (some ((gN σ)))) dX5_init_43 fl_RX5_32 (Or.inr ⟨rfl, rfl⟩) (Or.inr ⟨rfl, rfl⟩) ⟨g11.1, Or.inl g11.2⟩ (Or.inr ⟨_, rfl⟩) ?_
  exact l_X5_init_0_46 _ _ _ _ _ _ _ h
set_option maxRecDepth 100000 in
set_option maxHeartbeats 4000000 in
theorem l_X5_init_0_30  (cu : Nat) (su : Nat) (x0 : Nat) (x1 : Option Nat) (x2 : Option Nat) (σ : aSt) (o : Unit × aSt) (h : f_X5_init_0_30  cu su x0 x1 x2 σ = some o) : AW false m_X5_init_0 30 [(0, va_rf (some (x0))), (1, va_rf (x1)), (2, va_rf (x2))] [] σ cu su none o.2 := by
  unfold f_X5_init_0_30 at h
  replace h := e_grd h; obtain ⟨gcu, h⟩ := h
  refine w_aload_n 0 ((some (x0))) dX5_init_30 rfl rfl ?_
  refine w_bipush (v := 120) dX5_init_31 (by decide) ?_
  replace h := e_grd h; obtain ⟨g12, h⟩ := h
  refine w_newa (ty := .int) (kd := 13) (t0 := 0) dX5_init_33 rfl wd_3_14 (Or.inl ⟨rfl, rfl, rfl⟩) g12.1 (by decide) g12.2.1 g12.2.2.1 g12.2.2.2.1 g12.2.2.2.2 ?_
  replace h := e_grd h; obtain ⟨g13, h⟩ := h
  refine w_putQ (v := (some ((gN σ)))) dX5_init_35 fl_RX5_28 (Or.inr ⟨rfl, rfl⟩) (Or.inr ⟨rfl, rfl⟩) ⟨g13.1, Or.inl g13.2⟩ (Or.inr ⟨_, rfl⟩) ?_
  exact l_X5_init_0_38 _ _ _ _ _ _ _ h
set_option maxRecDepth 100000 in
set_option maxHeartbeats 4000000 in
theorem l_X5_init_0_25  (cu : Nat) (su : Nat) (x0 : Nat) (x1 : Option Nat) (x2 : Option Nat) (σ : aSt) (o : Unit × aSt) (h : f_X5_init_0_25  cu su x0 x1 x2 σ = some o) : AW false m_X5_init_0 25 [(0, va_rf (some (x0))), (1, va_rf (x1)), (2, va_rf (x2))] [] σ cu su none o.2 := by
  unfold f_X5_init_0_25 at h
  replace h := e_grd h; obtain ⟨gcu, h⟩ := h
  refine w_aload_n 0 ((some (x0))) dX5_init_25 rfl rfl ?_
  refine w_lconst (v := 0) dX5_init_26 (by decide) ?_
  replace h := e_grd h; obtain ⟨g14, h⟩ := h
  refine w_putL dX5_init_27 fl_RX5_24 (Or.inl rfl) rfl ⟨g14.1, Or.inl g14.2⟩ ?_
  exact l_X5_init_0_30 _ _ _ _ _ _ _ h
set_option maxRecDepth 100000 in
set_option maxHeartbeats 4000000 in
theorem l_X5_init_0_20  (cu : Nat) (su : Nat) (x0 : Nat) (x1 : Option Nat) (x2 : Option Nat) (σ : aSt) (o : Unit × aSt) (h : f_X5_init_0_20  cu su x0 x1 x2 σ = some o) : AW false m_X5_init_0 20 [(0, va_rf (some (x0))), (1, va_rf (x1)), (2, va_rf (x2))] [] σ cu su none o.2 := by
  unfold f_X5_init_0_20 at h
  replace h := e_grd h; obtain ⟨gcu, h⟩ := h
  refine w_aload_n 0 ((some (x0))) dX5_init_20 rfl rfl ?_
  refine w_iconst (v := 0) dX5_init_21 (by decide) ?_
  replace h := e_grd h; obtain ⟨g15, h⟩ := h
  refine w_putI dX5_init_22 fl_RX5_21 (Or.inl rfl) rfl ⟨g15.1, Or.inl g15.2⟩ ?_
  exact l_X5_init_0_25 _ _ _ _ _ _ _ h
set_option maxRecDepth 100000 in
set_option maxHeartbeats 4000000 in
theorem l_X5_init_0_15  (cu : Nat) (su : Nat) (x0 : Nat) (x1 : Option Nat) (x2 : Option Nat) (σ : aSt) (o : Unit × aSt) (h : f_X5_init_0_15  cu su x0 x1 x2 σ = some o) : AW false m_X5_init_0 15 [(0, va_rf (some (x0))), (1, va_rf (x1)), (2, va_rf (x2))] [] σ cu su none o.2 := by
  unfold f_X5_init_0_15 at h
  replace h := e_grd h; obtain ⟨gcu, h⟩ := h
  refine w_aload_n 0 ((some (x0))) dX5_init_15 rfl rfl ?_
  refine w_iconst (v := 0) dX5_init_16 (by decide) ?_
  replace h := e_grd h; obtain ⟨g16, h⟩ := h
  refine w_putI dX5_init_17 fl_RX5_18 (Or.inl rfl) rfl ⟨g16.1, Or.inl g16.2⟩ ?_
  exact l_X5_init_0_20 _ _ _ _ _ _ _ h
set_option maxRecDepth 100000 in
set_option maxHeartbeats 4000000 in
theorem l_X5_init_0_10  (cu : Nat) (su : Nat) (x0 : Nat) (x1 : Option Nat) (x2 : Option Nat) (σ : aSt) (o : Unit × aSt) (h : f_X5_init_0_10  cu su x0 x1 x2 σ = some o) : AW false m_X5_init_0 10 [(0, va_rf (some (x0))), (1, va_rf (x1)), (2, va_rf (x2))] [] σ cu su none o.2 := by
  unfold f_X5_init_0_10 at h
  replace h := e_grd h; obtain ⟨gcu, h⟩ := h
  refine w_aload_n 0 ((some (x0))) dX5_init_10 rfl rfl ?_
  refine w_iconst (v := 5) dX5_init_11 (by decide) ?_
  replace h := e_grd h; obtain ⟨g17, h⟩ := h
  refine w_putI dX5_init_12 fl_RX5_15 (Or.inl rfl) rfl ⟨g17.1, Or.inl g17.2⟩ ?_
  exact l_X5_init_0_15 _ _ _ _ _ _ _ h
set_option maxRecDepth 100000 in
set_option maxHeartbeats 4000000 in
theorem c_X5_init_0 (p0 : Nat) (p1 : Option Nat) (p2 : Option Nat) (σ : aSt) (o : Unit × aSt) (h : f_X5_init_0 p0 p1 p2 σ = some o) : AM false m_X5_init_0 [va_rf (some (p0)), va_rf (p1), va_rf (p2)] σ none o.2 := by
  refine AM_of2 (lv := [(0, va_rf (some (p0))), (1, va_rf (p1)), (2, va_rf (p2))]) (by decide +kernel) (by simp [lv_args, aRf_cat, aI_cat, aL_cat]) (by simp [lg_sl, aRf_cat, aI_cat, aL_cat]) ?_
  unfold f_X5_init_0 at h
  refine w_aload_n 0 ((some (p0))) dX5_init_0 rfl rfl ?_
  refine w_objInit dX5_init_1 wd_6_15 wd_1_11 wd_1_12 (by decide) (by decide) ?_
  refine w_aload_n 0 ((some (p0))) dX5_init_4 rfl rfl ?_
  refine w_bipush (v := 50) dX5_init_5 (by decide) ?_
  replace h := e_grd h; obtain ⟨g1, h⟩ := h
  refine w_putI dX5_init_7 fl_RX5_9 (Or.inl rfl) rfl ⟨g1.1, Or.inl g1.2⟩ ?_
  exact l_X5_init_0_10 _ _ _ _ _ _ _ h
theorem kd_X1_init_0 : aKd m_X1_init_0 0 := ⟨wd_7_6, wd_2_13, ⟨by decide +kernel, by decide +kernel, by decide +kernel⟩⟩
set_option maxRecDepth 100000 in
set_option maxHeartbeats 4000000 in
theorem l_X1_init_0_19  (cu : Nat) (su : Nat) (x0 : Nat) (σ : aSt) (o : Unit × aSt) (h : f_X1_init_0_19  cu su x0 σ = some o) : AW false m_X1_init_0 19 [(0, va_rf (some (x0)))] [] σ cu su none o.2 := by
  unfold f_X1_init_0_19 at h
  replace h := e_grd h; obtain ⟨gcu, h⟩ := h
  refine w_aload_n 0 ((some (x0))) dX1_init_19 rfl rfl ?_
  refine w_iconst (v := 0) dX1_init_20 (by decide) ?_
  replace h := e_grd h; obtain ⟨g2, h⟩ := h
  refine w_putI dX1_init_21 fl_RX1_19 (Or.inl rfl) rfl ⟨g2.1, Or.inl g2.2⟩ ?_
  obtain rfl := Option.some.inj h
  exact w_vreturn dX1_init_24 rfl (by exact gcu.1) (by exact gcu.2)
set_option maxRecDepth 100000 in
set_option maxHeartbeats 4000000 in
theorem l_X1_init_0_14  (cu : Nat) (su : Nat) (x0 : Nat) (σ : aSt) (o : Unit × aSt) (h : f_X1_init_0_14  cu su x0 σ = some o) : AW false m_X1_init_0 14 [(0, va_rf (some (x0)))] [] σ cu su none o.2 := by
  unfold f_X1_init_0_14 at h
  replace h := e_grd h; obtain ⟨gcu, h⟩ := h
  refine w_aload_n 0 ((some (x0))) dX1_init_14 rfl rfl ?_
  refine w_iconst (v := 0) dX1_init_15 (by decide) ?_
  replace h := e_grd h; obtain ⟨g3, h⟩ := h
  refine w_putI dX1_init_16 fl_RX1_16 (Or.inl rfl) rfl ⟨g3.1, Or.inl g3.2⟩ ?_
  exact l_X1_init_0_19 _ _ _ _ _ h
set_option maxRecDepth 100000 in
set_option maxHeartbeats 4000000 in
theorem l_X1_init_0_9  (cu : Nat) (su : Nat) (x0 : Nat) (σ : aSt) (o : Unit × aSt) (h : f_X1_init_0_9  cu su x0 σ = some o) : AW false m_X1_init_0 9 [(0, va_rf (some (x0)))] [] σ cu su none o.2 := by
  unfold f_X1_init_0_9 at h
  replace h := e_grd h; obtain ⟨gcu, h⟩ := h
  refine w_aload_n 0 ((some (x0))) dX1_init_9 rfl rfl ?_
  refine w_iconst (v := 0) dX1_init_10 (by decide) ?_
  replace h := e_grd h; obtain ⟨g4, h⟩ := h
  refine w_putI dX1_init_11 fl_RX1_13 (Or.inl rfl) rfl ⟨g4.1, Or.inl g4.2⟩ ?_
  exact l_X1_init_0_14 _ _ _ _ _ h
set_option maxRecDepth 100000 in
set_option maxHeartbeats 4000000 in
theorem c_X1_init_0 (p0 : Nat) (σ : aSt) (o : Unit × aSt) (h : f_X1_init_0 p0 σ = some o) : AM false m_X1_init_0 [va_rf (some (p0))] σ none o.2 := by
  refine AM_of2 (lv := [(0, va_rf (some (p0)))]) (by decide +kernel) rfl (Nat.le_of_ble_eq_true rfl) ?_
  unfold f_X1_init_0 at h
  refine w_aload_n 0 ((some (p0))) dX1_init_0 rfl rfl ?_
  refine w_objInit dX1_init_1 wd_7_7 wd_1_11 wd_1_12 (by decide) (by decide) ?_
  refine w_aload_n 0 ((some (p0))) dX1_init_4 rfl rfl ?_
  refine w_iconst (v := 0) dX1_init_5 (by decide) ?_
  replace h := e_grd h; obtain ⟨g1, h⟩ := h
  refine w_putI dX1_init_6 fl_RX1_7 (Or.inl rfl) rfl ⟨g1.1, Or.inl g1.2⟩ ?_
  exact l_X1_init_0_9 _ _ _ _ _ h
theorem kd_X0_init_0 : aKd m_X0_init_0 0 := ⟨wd_7_13, wd_2_17, ⟨by decide +kernel, by decide +kernel, by decide +kernel⟩⟩
set_option maxRecDepth 100000 in
set_option maxHeartbeats 4000000 in
theorem l_X0_init_0_27  (cu : Nat) (su : Nat) (x0 : Nat) (σ : aSt) (o : Unit × aSt) (h : f_X0_init_0_27  cu su x0 σ = some o) : AW false m_X0_init_0 27 [(0, va_rf (some (x0)))] [] σ cu su none o.2 := by
  unfold f_X0_init_0_27 at h
  replace h := e_grd h; obtain ⟨gcu, h⟩ := h
  refine w_aload_n 0 ((some (x0))) dX0_init_27 rfl rfl ?_
  refine w_iconst (v := 0) dX0_init_28 (by decide) ?_
  replace h := e_grd h; obtain ⟨g3, h⟩ := h
  refine w_putI dX0_init_29 fl_RX0_24 (Or.inl rfl) rfl ⟨g3.1, Or.inl g3.2⟩ ?_
  obtain rfl := Option.some.inj h
  exact w_vreturn dX0_init_32 rfl (by exact gcu.1) (by exact gcu.2)
set_option maxRecDepth 100000 in
set_option maxHeartbeats 4000000 in
theorem l_X0_init_0_22  (cu : Nat) (su : Nat) (x0 : Nat) (σ : aSt) (o : Unit × aSt) (h : f_X0_init_0_22  cu su x0 σ = some o) : AW false m_X0_init_0 22 [(0, va_rf (some (x0)))] [] σ cu su none o.2 := by
  unfold f_X0_init_0_22 at h
  replace h := e_grd h; obtain ⟨gcu, h⟩ := h
  refine w_aload_n 0 ((some (x0))) dX0_init_22 rfl rfl ?_
  refine w_iconst (v := 0) dX0_init_23 (by decide) ?_
  replace h := e_grd h; obtain ⟨g4, h⟩ := h
  refine w_putI dX0_init_24 fl_RX0_21 (Or.inl rfl) rfl ⟨g4.1, Or.inl g4.2⟩ ?_
  exact l_X0_init_0_27 _ _ _ _ _ h
set_option maxRecDepth 100000 in
set_option maxHeartbeats 4000000 in
theorem l_X0_init_0_17  (cu : Nat) (su : Nat) (x0 : Nat) (σ : aSt) (o : Unit × aSt) (h : f_X0_init_0_17  cu su x0 σ = some o) : AW false m_X0_init_0 17 [(0, va_rf (some (x0)))] [] σ cu su none o.2 := by
  unfold f_X0_init_0_17 at h
  replace h := e_grd h; obtain ⟨gcu, h⟩ := h
  refine w_aload_n 0 ((some (x0))) dX0_init_17 rfl rfl ?_
  refine w_null dX0_init_18 ?_
  replace h := e_grd h; obtain ⟨g5, h⟩ := h
  refine w_putQ (v := none) dX0_init_19 fl_RX0_17 (Or.inl rfl) (Or.inl rfl) ⟨g5.1, Or.inl g5.2⟩ (Or.inl ⟨_, rfl⟩) ?_
  exact l_X0_init_0_22 _ _ _ _ _ h
set_option maxRecDepth 100000 in
set_option maxHeartbeats 4000000 in
theorem l_X0_init_0_12  (cu : Nat) (su : Nat) (x0 : Nat) (σ : aSt) (o : Unit × aSt) (h : f_X0_init_0_12  cu su x0 σ = some o) : AW false m_X0_init_0 12 [(0, va_rf (some (x0)))] [] σ cu su none o.2 := by
  unfold f_X0_init_0_12 at h
  replace h := e_grd h; obtain ⟨gcu, h⟩ := h
  refine w_aload_n 0 ((some (x0))) dX0_init_12 rfl rfl ?_
  refine w_iconst (v := 0) dX0_init_13 (by decide) ?_
  replace h := e_grd h; obtain ⟨g6, h⟩ := h
  refine w_putI dX0_init_14 fl_RX0_13 (Or.inl rfl) rfl ⟨g6.1, Or.inl g6.2⟩ ?_
  exact l_X0_init_0_17 _ _ _ _ _ h
set_option maxRecDepth 100000 in
set_option maxHeartbeats 4000000 in
theorem c_X0_init_0 (p0 : Nat) (σ : aSt) (o : Unit × aSt) (h : f_X0_init_0 p0 σ = some o) : AM false m_X0_init_0 [va_rf (some (p0))] σ none o.2 := by
  refine AM_of2 (lv := [(0, va_rf (some (p0)))]) (by decide +kernel) rfl (Nat.le_of_ble_eq_true rfl) ?_
  unfold f_X0_init_0 at h
  refine w_aload_n 0 ((some (p0))) dX0_init_0 rfl rfl ?_
  refine w_objInit dX0_init_1 wd_7_14 wd_1_11 wd_1_12 (by decide) (by decide) ?_
  refine w_aload_n 0 ((some (p0))) dX0_init_4 rfl rfl ?_
  refine w_bipush (v := 16) dX0_init_5 (by decide) ?_
  replace h := e_grd h; obtain ⟨g1, h⟩ := h
  refine w_newa (ty := .int) (kd := 13) (t0 := 0) dX0_init_7 rfl wd_3_14 (Or.inl ⟨rfl, rfl, rfl⟩) g1.1 (by decide) g1.2.1 g1.2.2.1 g1.2.2.2.1 g1.2.2.2.2 ?_
  replace h := e_grd h; obtain ⟨g2, h⟩ := h
  refine w_putQ (v := (some ((gN σ)))) dX0_init_9 fl_RX0_9 (Or.inr ⟨rfl, rfl⟩) (Or.inr ⟨rfl, rfl⟩) ⟨g2.1, Or.inl g2.2⟩ (Or.inr ⟨_, rfl⟩) ?_
  exact l_X0_init_0_12 _ _ _ _ _ h
theorem kd_X9_init_0 : aKd m_X9_init_0 0 := ⟨wd_7_22, wd_3_2, ⟨by decide +kernel, by decide +kernel, by decide +kernel⟩⟩
set_option maxRecDepth 100000 in
set_option maxHeartbeats 4000000 in
theorem l_X9_init_0_22  (cu : Nat) (su : Nat) (x0 : Nat) (σ : aSt) (o : Unit × aSt) (h : f_X9_init_0_22  cu su x0 σ = some o) : AW false m_X9_init_0 22 [(0, va_rf (some (x0)))] [] σ cu su none o.2 := by
  unfold f_X9_init_0_22 at h
  replace h := e_grd h; obtain ⟨gcu, h⟩ := h
  refine w_aload_n 0 ((some (x0))) dX9_init_22 rfl rfl ?_
  refine w_iconst (v := 0) dX9_init_23 (by decide) ?_
  replace h := e_grd h; obtain ⟨g3, h⟩ := h
  refine w_putI dX9_init_24 fl_RX9_23 (Or.inl rfl) rfl ⟨g3.1, Or.inl g3.2⟩ ?_
  obtain rfl := Option.some.inj h
  exact w_vreturn dX9_init_27 rfl (by exact gcu.1) (by exact gcu.2)
set_option maxRecDepth 100000 in
set_option maxHeartbeats 4000000 in
theorem l_X9_init_0_17  (cu : Nat) (su : Nat) (x0 : Nat) (σ : aSt) (o : Unit × aSt) (h : f_X9_init_0_17  cu su x0 σ = some o) : AW false m_X9_init_0 17 [(0, va_rf (some (x0)))] [] σ cu su none o.2 := by
  unfold f_X9_init_0_17 at h
  replace h := e_grd h; obtain ⟨gcu, h⟩ := h
  refine w_aload_n 0 ((some (x0))) dX9_init_17 rfl rfl ?_
  refine w_iconst (v := 0) dX9_init_18 (by decide) ?_
  replace h := e_grd h; obtain ⟨g4, h⟩ := h
  refine w_putI dX9_init_19 fl_RX9_19 (Or.inl rfl) rfl ⟨g4.1, Or.inl g4.2⟩ ?_
  exact l_X9_init_0_22 _ _ _ _ _ h
set_option maxRecDepth 100000 in
set_option maxHeartbeats 4000000 in
theorem l_X9_init_0_12  (cu : Nat) (su : Nat) (x0 : Nat) (σ : aSt) (o : Unit × aSt) (h : f_X9_init_0_12  cu su x0 σ = some o) : AW false m_X9_init_0 12 [(0, va_rf (some (x0)))] [] σ cu su none o.2 := by
  unfold f_X9_init_0_12 at h
  replace h := e_grd h; obtain ⟨gcu, h⟩ := h
  refine w_aload_n 0 ((some (x0))) dX9_init_12 rfl rfl ?_
  refine w_iconst (v := 0) dX9_init_13 (by decide) ?_
  replace h := e_grd h; obtain ⟨g5, h⟩ := h
  refine w_putZ dX9_init_14 fl_RX9_15 (Or.inl rfl) rfl ⟨g5.1, Or.inl g5.2⟩ rfl rfl ?_
  exact l_X9_init_0_17 _ _ _ _ _ h
set_option maxRecDepth 100000 in
set_option maxHeartbeats 4000000 in
theorem c_X9_init_0 (p0 : Nat) (σ : aSt) (o : Unit × aSt) (h : f_X9_init_0 p0 σ = some o) : AM false m_X9_init_0 [va_rf (some (p0))] σ none o.2 := by
  refine AM_of2 (lv := [(0, va_rf (some (p0)))]) (by decide +kernel) rfl (Nat.le_of_ble_eq_true rfl) ?_
  unfold f_X9_init_0 at h
  refine w_aload_n 0 ((some (p0))) dX9_init_0 rfl rfl ?_
  refine w_objInit dX9_init_1 wd_7_23 wd_1_11 wd_1_12 (by decide) (by decide) ?_
  refine w_aload_n 0 ((some (p0))) dX9_init_4 rfl rfl ?_
  refine w_bipush (v := 120) dX9_init_5 (by decide) ?_
  replace h := e_grd h; obtain ⟨g1, h⟩ := h
  refine w_newa (ty := .int) (kd := 13) (t0 := 0) dX9_init_7 rfl wd_3_14 (Or.inl ⟨rfl, rfl, rfl⟩) g1.1 (by decide) g1.2.1 g1.2.2.1 g1.2.2.2.1 g1.2.2.2.2 ?_
  replace h := e_grd h; obtain ⟨g2, h⟩ := h
  refine w_putQ (v := (some ((gN σ)))) dX9_init_9 fl_RX9_9 (Or.inr ⟨rfl, rfl⟩) (Or.inr ⟨rfl, rfl⟩) ⟨g2.1, Or.inl g2.2⟩ (Or.inr ⟨_, rfl⟩) ?_
  exact l_X9_init_0_12 _ _ _ _ _ h
theorem kd_X11_init_0 : aKd m_X11_init_0 0 := ⟨wd_1_9, wd_1_2, ⟨by decide +kernel, by decide +kernel, by decide +kernel⟩⟩
set_option maxRecDepth 100000 in
set_option maxHeartbeats 4000000 in
theorem l_X11_init_0_148 (rec129 : Nat → Nat → Int32 → aSt → Option (Unit × aSt)) (hrec129 : ∀ (cu : Nat) (su : Nat) (x1 : Int32) (σ : aSt) (o : Unit × aSt), rec129 cu su x1 σ = some o → AW false m_X11_init_0 129 [(0, va_rf (some (0))), (1, Value.int (x1))] [] σ cu su none o.2) (cu : Nat) (su : Nat) (x1 : Int32) (σ : aSt) (o : Unit × aSt) (h : f_X11_init_0_148 rec129 cu su x1 σ = some o) : AW false m_X11_init_0 148 [(0, va_rf (some (0))), (1, Value.int (x1))] [] σ cu su none o.2 := by
  unfold f_X11_init_0_148 at h
  replace h := e_grd h; obtain ⟨gcu, h⟩ := h
  refine w_iinc (q := 1) (v := x1 + 1) dX11_init_148 rfl rfl (by decide) rfl ?_
  refine w_goto 129 dX11_init_151 (by decide) ?_
  refine w_sub [1, 0] rfl ?_
  exact hrec129 _ _ _ _ _ h
set_option maxRecDepth 100000 in
set_option maxHeartbeats 4000000 in
theorem l_X11_init_0_129_b (rec129 : Nat → Nat → Int32 → aSt → Option (Unit × aSt)) (hrec129 : ∀ (cu : Nat) (su : Nat) (x1 : Int32) (σ : aSt) (o : Unit × aSt), rec129 cu su x1 σ = some o → AW false m_X11_init_0 129 [(0, va_rf (some (0))), (1, Value.int (x1))] [] σ cu su none o.2) (cu : Nat) (su : Nat) (x1 : Int32) (σ : aSt) (o : Unit × aSt) (h : f_X11_init_0_129_b rec129 cu su x1 σ = some o) : AW false m_X11_init_0 129 [(0, va_rf (some (0))), (1, Value.int (x1))] [] σ cu su none o.2 := by
  unfold f_X11_init_0_129_b at h
  replace h := e_grd h; obtain ⟨gcu, h⟩ := h
  refine w_iload_n 1 dX11_init_129 rfl rfl ?_
  refine w_bipush (v := 8) dX11_init_130 (by decide) ?_
  refine w_icmp_ge 154 dX11_init_132 (by decide) (fun c3 => ?_) (fun c3 => ?_)
  · replace h := e_t c3 h
    obtain rfl := Option.some.inj h
    exact w_vreturn dX11_init_154 rfl (by exact gcu.1) (by exact gcu.2)
  · replace h := e_f c3 h
    refine w_aload_n 0 ((some (0))) dX11_init_135 rfl rfl ?_
    replace h := e_grd h; obtain ⟨g4, h⟩ := h
    refine w_get dX11_init_136 fl_RX11_11 ⟨g4.1, Or.inl g4.2⟩ (aFv_q (Or.inr ⟨rfl, rfl⟩)) ?_
    refine w_iload_n 1 dX11_init_139 rfl rfl ?_
    replace h := e_grd h; obtain ⟨g5, h⟩ := h
    refine w_new dX11_init_140 cl_RX11_9_0 g5.1 g5.2.1 g5.2.2 ?_
    refine w_dup dX11_init_143 (aRf_cat _) ?_
    replace h := e_grd h; obtain ⟨g9, h⟩ := h
    replace h := e_bind h; obtain ⟨q7, e8, h⟩ := h
    refine w_callIN (M2 := m_X9_init_0) (av := []) (host := RX11) (c_X9_init_0 _ _ _ e8) dX11_init_144 kd_X9_init_0 rfl rfl (by decide +kernel) wd_7_21 rfl rfl ⟨Nat.le_of_ble_eq_true rfl, Nat.le_of_ble_eq_true rfl, g9.1, g9.2⟩ (by simp [aRf_cat, aI_cat, aL_cat]) ?_
    replace h := e_oS h; obtain ⟨a10, r11, h⟩ := h
    rw [r11]
    replace h := e_grd h; obtain ⟨g12, h⟩ := h
    replace h := e_grd h; obtain ⟨b13, h⟩ := h
    replace h := e_grd h; obtain ⟨g14, h⟩ := h
    refine w_aastore (ci := 9) (t0 := 0) dX11_init_147 (Or.inr ⟨rfl, rfl, rfl⟩) ⟨g12.1, Or.inl g12.2⟩ ⟨g14.1, Or.inl g14.2⟩ b13 ?_
    exact l_X11_init_0_148 rec129 hrec129 _ _ _ _ _ h
theorem l_X11_init_0_129  : ∀ (n : Nat) (cu : Nat) (su : Nat) (x1 : Int32) (σ : aSt) (o : Unit × aSt), f_X11_init_0_129  n cu su x1 σ = some o → AW false m_X11_init_0 129 [(0, va_rf (some (0))), (1, Value.int (x1))] [] σ cu su none o.2
  | 0 => fun cu su x1 σ o h => by cases h
  | n + 1 => fun cu su x1 σ o h => l_X11_init_0_129_b (f_X11_init_0_129  n) (l_X11_init_0_129  n) cu su x1 σ o h
set_option maxRecDepth 100000 in
set_option maxHeartbeats 4000000 in
theorem l_X11_init_0_127  (cu : Nat) (su : Nat) (σ : aSt) (o : Unit × aSt) (h : f_X11_init_0_127  cu su σ = some o) : AW false m_X11_init_0 127 [(0, va_rf (some (0)))] [] σ cu su none o.2 := by
  unfold f_X11_init_0_127 at h
  replace h := e_grd h; obtain ⟨gcu, h⟩ := h
  refine w_iconst (v := 0) dX11_init_127 (by decide) ?_
  refine w_istore_n dX11_init_128 rfl (by decide) rfl ?_
  refine w_sub [1, 0] rfl ?_
  exact l_X11_init_0_129 aN _ _ _ _ _ h
set_option maxRecDepth 100000 in
set_option maxHeartbeats 4000000 in
theorem l_X11_init_0_122  (cu : Nat) (su : Nat) (σ : aSt) (o : Unit × aSt) (h : f_X11_init_0_122  cu su σ = some o) : AW false m_X11_init_0 122 [(0, va_rf (some (0)))] [] σ cu su none o.2 := by
  unfold f_X11_init_0_122 at h
  replace h := e_grd h; obtain ⟨gcu, h⟩ := h
  refine w_aload_n 0 ((some (0))) dX11_init_122 rfl rfl ?_
  refine w_iconst (v := 0) dX11_init_123 (by decide) ?_
  replace h := e_grd h; obtain ⟨g15, h⟩ := h
  refine w_putI dX11_init_124 fl_RX11_81 (Or.inl rfl) rfl ⟨g15.1, Or.inl g15.2⟩ ?_
  exact l_X11_init_0_127 _ _ _ _ h
set_option maxRecDepth 100000 in
set_option maxHeartbeats 4000000 in
theorem l_X11_init_0_117  (cu : Nat) (su : Nat) (σ : aSt) (o : Unit × aSt) (h : f_X11_init_0_117  cu su σ = some o) : AW false m_X11_init_0 117 [(0, va_rf (some (0)))] [] σ cu su none o.2 := by
  unfold f_X11_init_0_117 at h
  replace h := e_grd h; obtain ⟨gcu, h⟩ := h
  refine w_aload_n 0 ((some (0))) dX11_init_117 rfl rfl ?_
  refine w_iconst (v := 0) dX11_init_118 (by decide) ?_
  replace h := e_grd h; obtain ⟨g16, h⟩ := h
  refine w_putI dX11_init_119 fl_RX11_77 (Or.inl rfl) rfl ⟨g16.1, Or.inl g16.2⟩ ?_
  exact l_X11_init_0_122 _ _ _ _ h
set_option maxRecDepth 100000 in
set_option maxHeartbeats 4000000 in
theorem l_X11_init_0_106  (cu : Nat) (su : Nat) (σ : aSt) (o : Unit × aSt) (h : f_X11_init_0_106  cu su σ = some o) : AW false m_X11_init_0 106 [(0, va_rf (some (0)))] [] σ cu su none o.2 := by
  unfold f_X11_init_0_106 at h
  replace h := e_grd h; obtain ⟨gcu, h⟩ := h
  refine w_aload_n 0 ((some (0))) dX11_init_106 rfl rfl ?_
  replace h := e_grd h; obtain ⟨g17, h⟩ := h
  refine w_new dX11_init_107 cl_RX11_70_0 g17.1 g17.2.1 g17.2.2 ?_
  refine w_dup dX11_init_110 (aRf_cat _) ?_
  replace h := e_grd h; obtain ⟨g21, h⟩ := h
  replace h := e_bind h; obtain ⟨q19, e20, h⟩ := h
  refine w_callI (M2 := m_X8_init_0) (av := []) (c_X8_init_0 _ _ _ e20) dX11_init_111 kd_X8_init_0 rfl rfl wd_7_20 wd_5_4 rfl rfl ⟨Nat.le_of_ble_eq_true rfl, Nat.le_of_ble_eq_true rfl, g21.1, g21.2⟩ (Nat.le_of_ble_eq_true rfl) ?_
  replace h := e_grd h; obtain ⟨g22, h⟩ := h
  refine w_putQ (v := (some ((gN σ)))) dX11_init_114 fl_RX11_73 (Or.inl rfl) (Or.inl rfl) ⟨g22.1, Or.inl g22.2⟩ (Or.inl ⟨_, rfl⟩) ?_
  exact l_X11_init_0_117 _ _ _ _ h
set_option maxRecDepth 100000 in
set_option maxHeartbeats 4000000 in
theorem l_X11_init_0_95  (cu : Nat) (su : Nat) (σ : aSt) (o : Unit × aSt) (h : f_X11_init_0_95  cu su σ = some o) : AW false m_X11_init_0 95 [(0, va_rf (some (0)))] [] σ cu su none o.2 := by
  unfold f_X11_init_0_95 at h
  replace h := e_grd h; obtain ⟨gcu, h⟩ := h
  refine w_aload_n 0 ((some (0))) dX11_init_95 rfl rfl ?_
  replace h := e_grd h; obtain ⟨g23, h⟩ := h
  refine w_new dX11_init_96 cl_RX11_63_0 g23.1 g23.2.1 g23.2.2 ?_
  refine w_dup dX11_init_99 (aRf_cat _) ?_
  replace h := e_grd h; obtain ⟨g27, h⟩ := h
  replace h := e_bind h; obtain ⟨q25, e26, h⟩ := h
  refine w_callIN (M2 := m_X0_init_0) (av := []) (host := RX11) (c_X0_init_0 _ _ _ e26) dX11_init_100 kd_X0_init_0 rfl rfl (by decide +kernel) wd_7_12 rfl rfl ⟨Nat.le_of_ble_eq_true rfl, Nat.le_of_ble_eq_true rfl, g27.1, g27.2⟩ (Nat.le_of_ble_eq_true rfl) ?_
  replace h := e_grd h; obtain ⟨g28, h⟩ := h
  refine w_putQ (v := (some ((gN σ)))) dX11_init_103 fl_RX11_66 (Or.inr ⟨rfl, rfl⟩) (Or.inr ⟨rfl, rfl⟩) ⟨g28.1, Or.inl g28.2⟩ (Or.inl ⟨_, rfl⟩) ?_
  exact l_X11_init_0_106 _ _ _ _ h
set_option maxRecDepth 100000 in
set_option maxHeartbeats 4000000 in
theorem l_X11_init_0_84  (cu : Nat) (su : Nat) (σ : aSt) (o : Unit × aSt) (h : f_X11_init_0_84  cu su σ = some o) : AW false m_X11_init_0 84 [(0, va_rf (some (0)))] [] σ cu su none o.2 := by
  unfold f_X11_init_0_84 at h
  replace h := e_grd h; obtain ⟨gcu, h⟩ := h
  refine w_aload_n 0 ((some (0))) dX11_init_84 rfl rfl ?_
  replace h := e_grd h; obtain ⟨g29, h⟩ := h
  refine w_new dX11_init_85 cl_RX11_56_0 g29.1 g29.2.1 g29.2.2 ?_
  refine w_dup dX11_init_88 (aRf_cat _) ?_
  replace h := e_bind h; obtain ⟨q31, e32, h⟩ := h
  refine w_callIN (M2 := m_X1_init_0) (av := []) (host := RX11) (c_X1_init_0 _ _ _ e32) dX11_init_89 kd_X1_init_0 rfl rfl (by decide +kernel) wd_7_5 rfl rfl ⟨Nat.le_of_ble_eq_true rfl, Nat.le_of_ble_eq_true rfl, by exact g29.2.1, by exact g29.2.2⟩ (Nat.le_of_ble_eq_true rfl) ?_
  replace h := e_grd h; obtain ⟨g33, h⟩ := h
  refine w_putQ (v := (some ((gN σ)))) dX11_init_92 fl_RX11_59 (Or.inr ⟨rfl, rfl⟩) (Or.inr ⟨rfl, rfl⟩) ⟨g33.1, Or.inl g33.2⟩ (Or.inl ⟨_, rfl⟩) ?_
  exact l_X11_init_0_95 _ _ _ _ h
set_option maxRecDepth 100000 in
set_option maxHeartbeats 4000000 in
theorem l_X11_init_0_65  (cu : Nat) (su : Nat) (σ : aSt) (o : Unit × aSt) (h : f_X11_init_0_65  cu su σ = some o) : AW false m_X11_init_0 65 [(0, va_rf (some (0)))] [] σ cu su none o.2 := by
  unfold f_X11_init_0_65 at h
  replace h := e_grd h; obtain ⟨gcu, h⟩ := h
  refine w_aload_n 0 ((some (0))) dX11_init_65 rfl rfl ?_
  replace h := e_grd h; obtain ⟨g34, h⟩ := h
  refine w_new dX11_init_66 cl_RX11_47_0 g34.1 g34.2.1 g34.2.2 ?_
  refine w_dup dX11_init_69 (aRf_cat _) ?_
  refine w_aload_n 0 ((some (0))) dX11_init_70 rfl rfl ?_
  replace h := e_grd h; obtain ⟨g36, h⟩ := h
  refine w_get dX11_init_71 fl_RX11_18 ⟨g36.1, Or.inl g36.2⟩ (aFv_q (Or.inr ⟨rfl, rfl⟩)) ?_
  refine w_aload_n 0 ((some (0))) dX11_init_74 rfl rfl ?_
  refine w_get dX11_init_75 fl_RX11_43 ⟨g36.1, Or.inl g36.2⟩ (aFv_q (Or.inr ⟨rfl, rfl⟩)) ?_
  replace h := e_grd h; obtain ⟨g39, h⟩ := h
  replace h := e_bind h; obtain ⟨q37, e38, h⟩ := h
  refine w_callI (M2 := m_X5_init_0) (av := [va_rf (gR (sN σ) 0 1), va_rf (gR (sN σ) 0 4)]) (c_X5_init_0 _ _ _ _ _ e38) dX11_init_78 kd_X5_init_0 rfl rfl wd_6_12 wd_6_13 rfl rfl ⟨Nat.le_of_ble_eq_true rfl, Nat.le_of_ble_eq_true rfl, g39.1, g39.2⟩ (Nat.le_of_ble_eq_true rfl) ?_
  replace h := e_grd h; obtain ⟨g40, h⟩ := h
  refine w_putQ (v := (some ((gN σ)))) dX11_init_81 fl_RX11_52 (Or.inr ⟨rfl, rfl⟩) (Or.inr ⟨rfl, rfl⟩) ⟨g40.1, Or.inl g40.2⟩ (Or.inl ⟨_, rfl⟩) ?_
  exact l_X11_init_0_84 _ _ _ _ h
set_option maxRecDepth 100000 in
set_option maxHeartbeats 4000000 in
theorem l_X11_init_0_50  (cu : Nat) (su : Nat) (σ : aSt) (o : Unit × aSt) (h : f_X11_init_0_50  cu su σ = some o) : AW false m_X11_init_0 50 [(0, va_rf (some (0)))] [] σ cu su none o.2 := by
  unfold f_X11_init_0_50 at h
  replace h := e_grd h; obtain ⟨gcu, h⟩ := h
  refine w_aload_n 0 ((some (0))) dX11_init_50 rfl rfl ?_
  replace h := e_grd h; obtain ⟨g41, h⟩ := h
  refine w_new dX11_init_51 cl_RX11_38_0 g41.1 g41.2.1 g41.2.2 ?_
  refine w_dup dX11_init_54 (aRf_cat _) ?_
  refine w_aload_n 0 ((some (0))) dX11_init_55 rfl rfl ?_
  replace h := e_grd h; obtain ⟨g43, h⟩ := h
  refine w_get dX11_init_56 fl_RX11_18 ⟨g43.1, Or.inl g43.2⟩ (aFv_q (Or.inr ⟨rfl, rfl⟩)) ?_
  replace h := e_grd h; obtain ⟨g46, h⟩ := h
  replace h := e_bind h; obtain ⟨q44, e45, h⟩ := h
  refine w_callI (M2 := m_X2_init_0) (av := [va_rf (gR (sN σ) 0 1)]) (c_X2_init_0 _ _ _ _ e45) dX11_init_59 kd_X2_init_0 rfl rfl wd_4_9 wd_4_10 rfl rfl ⟨Nat.le_of_ble_eq_true rfl, Nat.le_of_ble_eq_true rfl, g46.1, g46.2⟩ (Nat.le_of_ble_eq_true rfl) ?_
  replace h := e_grd h; obtain ⟨g47, h⟩ := h
  refine w_putQ (v := (some ((gN σ)))) dX11_init_62 fl_RX11_43 (Or.inr ⟨rfl, rfl⟩) (Or.inr ⟨rfl, rfl⟩) ⟨g47.1, Or.inl g47.2⟩ (Or.inl ⟨_, rfl⟩) ?_
  exact l_X11_init_0_65 _ _ _ _ h
set_option maxRecDepth 100000 in
set_option maxHeartbeats 4000000 in
theorem l_X11_init_0_35  (cu : Nat) (su : Nat) (σ : aSt) (o : Unit × aSt) (h : f_X11_init_0_35  cu su σ = some o) : AW false m_X11_init_0 35 [(0, va_rf (some (0)))] [] σ cu su none o.2 := by
  unfold f_X11_init_0_35 at h
  replace h := e_grd h; obtain ⟨gcu, h⟩ := h
  refine w_aload_n 0 ((some (0))) dX11_init_35 rfl rfl ?_
  replace h := e_grd h; obtain ⟨g48, h⟩ := h
  refine w_new dX11_init_36 cl_RX11_29_0 g48.1 g48.2.1 g48.2.2 ?_
  refine w_dup dX11_init_39 (aRf_cat _) ?_
  refine w_aload_n 0 ((some (0))) dX11_init_40 rfl rfl ?_
  replace h := e_grd h; obtain ⟨g50, h⟩ := h
  refine w_get dX11_init_41 fl_RX11_25 ⟨g50.1, Or.inl g50.2⟩ (aFv_q (Or.inr ⟨rfl, rfl⟩)) ?_
  replace h := e_bind h; obtain ⟨q51, e52, h⟩ := h
  refine w_callI (M2 := m_X6_init_0) (av := [va_rf (gR (sN σ) 0 2)]) (c_X6_init_0 _ _ _ _ e52) dX11_init_44 kd_X6_init_0 rfl rfl wd_3_22 wd_3_23 rfl rfl ⟨Nat.le_of_ble_eq_true rfl, Nat.le_of_ble_eq_true rfl, by exact g48.2.1, by exact g48.2.2⟩ (Nat.le_of_ble_eq_true rfl) ?_
  replace h := e_grd h; obtain ⟨g53, h⟩ := h
  refine w_putQ (v := (some ((gN σ)))) dX11_init_47 fl_RX11_34 (Or.inr ⟨rfl, rfl⟩) (Or.inr ⟨rfl, rfl⟩) ⟨g53.1, Or.inl g53.2⟩ (Or.inl ⟨_, rfl⟩) ?_
  exact l_X11_init_0_50 _ _ _ _ h
set_option maxRecDepth 100000 in
set_option maxHeartbeats 4000000 in
theorem l_X11_init_0_24  (cu : Nat) (su : Nat) (σ : aSt) (o : Unit × aSt) (h : f_X11_init_0_24  cu su σ = some o) : AW false m_X11_init_0 24 [(0, va_rf (some (0)))] [] σ cu su none o.2 := by
  unfold f_X11_init_0_24 at h
  replace h := e_grd h; obtain ⟨gcu, h⟩ := h
  refine w_aload_n 0 ((some (0))) dX11_init_24 rfl rfl ?_
  replace h := e_grd h; obtain ⟨g54, h⟩ := h
  refine w_new dX11_init_25 cl_RX11_22_0 g54.1 g54.2.1 g54.2.2 ?_
  refine w_dup dX11_init_28 (aRf_cat _) ?_
  replace h := e_grd h; obtain ⟨g58, h⟩ := h
  replace h := e_bind h; obtain ⟨q56, e57, h⟩ := h
  refine w_callIN (M2 := m_X10_init_0) (av := []) (host := RX11) (c_X10_init_0 _ _ _ e57) dX11_init_29 kd_X10_init_0 rfl rfl (by decide +kernel) wd_3_11 rfl rfl ⟨Nat.le_of_ble_eq_true rfl, Nat.le_of_ble_eq_true rfl, g58.1, g58.2⟩ (Nat.le_of_ble_eq_true rfl) ?_
  replace h := e_grd h; obtain ⟨g59, h⟩ := h
  refine w_putQ (v := (some ((gN σ)))) dX11_init_32 fl_RX11_25 (Or.inr ⟨rfl, rfl⟩) (Or.inr ⟨rfl, rfl⟩) ⟨g59.1, Or.inl g59.2⟩ (Or.inl ⟨_, rfl⟩) ?_
  exact l_X11_init_0_35 _ _ _ _ h
set_option maxRecDepth 100000 in
set_option maxHeartbeats 4000000 in
theorem l_X11_init_0_13  (cu : Nat) (su : Nat) (σ : aSt) (o : Unit × aSt) (h : f_X11_init_0_13  cu su σ = some o) : AW false m_X11_init_0 13 [(0, va_rf (some (0)))] [] σ cu su none o.2 := by
  unfold f_X11_init_0_13 at h
  replace h := e_grd h; obtain ⟨gcu, h⟩ := h
  refine w_aload_n 0 ((some (0))) dX11_init_13 rfl rfl ?_
  replace h := e_grd h; obtain ⟨g60, h⟩ := h
  refine w_new dX11_init_14 cl_RX11_15_0 g60.1 g60.2.1 g60.2.2 ?_
  refine w_dup dX11_init_17 (aRf_cat _) ?_
  replace h := e_grd h; obtain ⟨g64, h⟩ := h
  replace h := e_bind h; obtain ⟨q62, e63, h⟩ := h
  refine w_callIN (M2 := m_X3_init_0) (av := []) (host := RX11) (c_X3_init_0 _ _ _ e63) dX11_init_18 kd_X3_init_0 rfl rfl (by decide +kernel) wd_3_3 rfl rfl ⟨Nat.le_of_ble_eq_true rfl, Nat.le_of_ble_eq_true rfl, g64.1, g64.2⟩ (Nat.le_of_ble_eq_true rfl) ?_
  replace h := e_grd h; obtain ⟨g65, h⟩ := h
  refine w_putQ (v := (some ((gN σ)))) dX11_init_21 fl_RX11_18 (Or.inr ⟨rfl, rfl⟩) (Or.inr ⟨rfl, rfl⟩) ⟨g65.1, Or.inl g65.2⟩ (Or.inl ⟨_, rfl⟩) ?_
  exact l_X11_init_0_24 _ _ _ _ h
set_option maxRecDepth 100000 in
set_option maxHeartbeats 4000000 in
theorem c_X11_init_0  (σ : aSt) (o : Unit × aSt) (h : f_X11_init_0  σ = some o) : AM false m_X11_init_0 [va_rf (some (0))] σ none o.2 := by
  refine AM_of2 (lv := [(0, va_rf (some (0)))]) (by decide +kernel) rfl (Nat.le_of_ble_eq_true rfl) ?_
  unfold f_X11_init_0 at h
  refine w_aload_n 0 ((some (0))) dX11_init_0 rfl rfl ?_
  refine w_objInit dX11_init_1 wd_1_10 wd_1_11 wd_1_12 (by decide) (by decide) ?_
  refine w_aload_n 0 ((some (0))) dX11_init_4 rfl rfl ?_
  refine w_bipush (v := 8) dX11_init_5 (by decide) ?_
  replace h := e_grd h; obtain ⟨g1, h⟩ := h
  refine w_anew (kd := 16) (t0 := 0) dX11_init_7 wd_1_13 (Or.inl ⟨rfl, rfl⟩) g1.1 (by decide) g1.2.1 g1.2.2.1 g1.2.2.2.1 g1.2.2.2.2 ?_
  replace h := e_grd h; obtain ⟨g2, h⟩ := h
  refine w_putQ (v := (some ((gN σ)))) dX11_init_10 fl_RX11_11 (Or.inr ⟨rfl, rfl⟩) (Or.inr ⟨rfl, rfl⟩) ⟨g2.1, Or.inl g2.2⟩ (Or.inr ⟨_, rfl⟩) ?_
  exact l_X11_init_0_13 _ _ _ _ h
theorem kd_X12_init_0 : aKd m_X12_init_0 0 := ⟨wd_8_6, wd_1_5, ⟨by decide +kernel, by decide +kernel, by decide +kernel⟩⟩
set_option maxRecDepth 100000 in
set_option maxHeartbeats 4000000 in
theorem l_X12_init_0_274  (cu : Nat) (su : Nat) (σ : aSt) (o : Unit × aSt) (h : f_X12_init_0_274  cu su σ = some o) : AW false m_X12_init_0 274 [(0, va_rf (some (57)))] [] σ cu su none o.2 := by
  unfold f_X12_init_0_274 at h
  replace h := e_grd h; obtain ⟨gcu, h⟩ := h
  refine w_aload_n 0 ((some (57))) dX12_init_274 rfl rfl ?_
  refine w_bipush (v := 16) dX12_init_275 (by decide) ?_
  replace h := e_grd h; obtain ⟨g11, h⟩ := h
  refine w_newa (ty := .int) (kd := 13) (t0 := 0) dX12_init_277 rfl wd_3_14 (Or.inl ⟨rfl, rfl, rfl⟩) g11.1 (by decide) g11.2.1 g11.2.2.1 g11.2.2.2.1 g11.2.2.2.2 ?_
  replace h := e_grd h; obtain ⟨g12, h⟩ := h
  refine w_putQ (v := (some ((gN σ)))) dX12_init_279 fl_RX12_99 (Or.inr ⟨rfl, rfl⟩) (Or.inr ⟨rfl, rfl⟩) ⟨g12.1, Or.inl g12.2⟩ (Or.inr ⟨_, rfl⟩) ?_
  obtain rfl := Option.some.inj h
  exact w_vreturn dX12_init_282 rfl (by exact g11.2.2.2.1) (by exact g11.2.2.2.2)
set_option maxRecDepth 100000 in
set_option maxHeartbeats 4000000 in
theorem l_X12_init_0_265  (cu : Nat) (su : Nat) (σ : aSt) (o : Unit × aSt) (h : f_X12_init_0_265  cu su σ = some o) : AW false m_X12_init_0 265 [(0, va_rf (some (57)))] [] σ cu su none o.2 := by
  unfold f_X12_init_0_265 at h
  replace h := e_grd h; obtain ⟨gcu, h⟩ := h
  refine w_aload_n 0 ((some (57))) dX12_init_265 rfl rfl ?_
  refine w_sipush (v := 1681) dX12_init_266 (by decide) ?_
  replace h := e_grd h; obtain ⟨g13, h⟩ := h
  refine w_newa (ty := .long) (kd := 15) (t0 := 2) dX12_init_269 rfl wd_5_0 (Or.inr (Or.inr ⟨rfl, rfl, rfl⟩)) g13.1 (by decide) g13.2.1 g13.2.2.1 g13.2.2.2.1 g13.2.2.2.2 ?_
  replace h := e_grd h; obtain ⟨g14, h⟩ := h
  refine w_putQ (v := (some ((gN σ)))) dX12_init_271 fl_RX12_95 (Or.inr ⟨rfl, rfl⟩) (Or.inr ⟨rfl, rfl⟩) ⟨g14.1, Or.inl g14.2⟩ (Or.inr ⟨_, rfl⟩) ?_
  exact l_X12_init_0_274 _ _ _ _ h
set_option maxRecDepth 100000 in
set_option maxHeartbeats 4000000 in
theorem l_X12_init_0_257  (cu : Nat) (su : Nat) (σ : aSt) (o : Unit × aSt) (h : f_X12_init_0_257  cu su σ = some o) : AW false m_X12_init_0 257 [(0, va_rf (some (57)))] [] σ cu su none o.2 := by
  unfold f_X12_init_0_257 at h
  replace h := e_grd h; obtain ⟨gcu, h⟩ := h
  refine w_aload_n 0 ((some (57))) dX12_init_257 rfl rfl ?_
  refine w_bipush (v := 120) dX12_init_258 (by decide) ?_
  replace h := e_grd h; obtain ⟨g15, h⟩ := h
  refine w_newa (ty := .int) (kd := 13) (t0 := 0) dX12_init_260 rfl wd_3_14 (Or.inl ⟨rfl, rfl, rfl⟩) g15.1 (by decide) g15.2.1 g15.2.2.1 g15.2.2.2.1 g15.2.2.2.2 ?_
  replace h := e_grd h; obtain ⟨g16, h⟩ := h
  refine w_putQ (v := (some ((gN σ)))) dX12_init_262 fl_RX12_92 (Or.inr ⟨rfl, rfl⟩) (Or.inr ⟨rfl, rfl⟩) ⟨g16.1, Or.inl g16.2⟩ (Or.inr ⟨_, rfl⟩) ?_
  exact l_X12_init_0_265 _ _ _ _ h
set_option maxRecDepth 100000 in
set_option maxHeartbeats 4000000 in
theorem l_X12_init_0_241  (cu : Nat) (su : Nat) (σ : aSt) (o : Unit × aSt) (h : f_X12_init_0_241  cu su σ = some o) : AW false m_X12_init_0 241 [(0, va_rf (some (57)))] [] σ cu su none o.2 := by
  unfold f_X12_init_0_241 at h
  replace h := e_grd h; obtain ⟨gcu, h⟩ := h
  refine w_aload_n 0 ((some (57))) dX12_init_241 rfl rfl ?_
  refine w_iconst (v := 2) dX12_init_242 (by decide) ?_
  replace h := e_grd h; obtain ⟨g17, h⟩ := h
  refine w_newa (ty := .int) (kd := 13) (t0 := 0) dX12_init_243 rfl wd_3_14 (Or.inl ⟨rfl, rfl, rfl⟩) g17.1 (by decide) g17.2.1 g17.2.2.1 g17.2.2.2.1 g17.2.2.2.2 ?_
  refine w_dup dX12_init_245 (aRf_cat _) ?_
  refine w_iconst (v := 0) dX12_init_246 (by decide) ?_
  refine w_bipush (v := 50) dX12_init_247 (by decide) ?_
  replace h := e_grd h; obtain ⟨b18, h⟩ := h
  refine w_iastore dX12_init_249 ⟨g17.1, Or.inl (Nat.lt_succ_self _)⟩ b18 ?_
  refine w_dup dX12_init_250 (aRf_cat _) ?_
  refine w_iconst (v := 1) dX12_init_251 (by decide) ?_
  refine w_iconst (v := 5) dX12_init_252 (by decide) ?_
  replace h := e_grd h; obtain ⟨b19, h⟩ := h
  refine w_iastore dX12_init_253 ⟨g17.1, Or.inl (Nat.lt_succ_self _)⟩ b19 ?_
  replace h := e_grd h; obtain ⟨g20, h⟩ := h
  refine w_putQ (v := (some ((gN σ)))) dX12_init_254 fl_RX12_89 (Or.inr ⟨rfl, rfl⟩) (Or.inr ⟨rfl, rfl⟩) ⟨g20.1, Or.inl g20.2⟩ (Or.inr ⟨_, rfl⟩) ?_
  exact l_X12_init_0_257 _ _ _ _ h
set_option maxRecDepth 100000 in
set_option maxHeartbeats 4000000 in
theorem l_X12_init_0_233  (cu : Nat) (su : Nat) (σ : aSt) (o : Unit × aSt) (h : f_X12_init_0_233  cu su σ = some o) : AW false m_X12_init_0 233 [(0, va_rf (some (57)))] [] σ cu su none o.2 := by
  unfold f_X12_init_0_233 at h
  replace h := e_grd h; obtain ⟨gcu, h⟩ := h
  refine w_aload_n 0 ((some (57))) dX12_init_233 rfl rfl ?_
  refine w_bipush (v := 120) dX12_init_234 (by decide) ?_
  replace h := e_grd h; obtain ⟨g21, h⟩ := h
  refine w_newa (ty := .int) (kd := 13) (t0 := 0) dX12_init_236 rfl wd_3_14 (Or.inl ⟨rfl, rfl, rfl⟩) g21.1 (by decide) g21.2.1 g21.2.2.1 g21.2.2.2.1 g21.2.2.2.2 ?_
  replace h := e_grd h; obtain ⟨g22, h⟩ := h
  refine w_putQ (v := (some ((gN σ)))) dX12_init_238 fl_RX12_86 (Or.inr ⟨rfl, rfl⟩) (Or.inr ⟨rfl, rfl⟩) ⟨g22.1, Or.inl g22.2⟩ (Or.inr ⟨_, rfl⟩) ?_
  exact l_X12_init_0_241 _ _ _ _ h
set_option maxRecDepth 100000 in
set_option maxHeartbeats 4000000 in
theorem l_X12_init_0_225  (cu : Nat) (su : Nat) (σ : aSt) (o : Unit × aSt) (h : f_X12_init_0_225  cu su σ = some o) : AW false m_X12_init_0 225 [(0, va_rf (some (57)))] [] σ cu su none o.2 := by
  unfold f_X12_init_0_225 at h
  replace h := e_grd h; obtain ⟨gcu, h⟩ := h
  refine w_aload_n 0 ((some (57))) dX12_init_225 rfl rfl ?_
  refine w_bipush (v := 120) dX12_init_226 (by decide) ?_
  replace h := e_grd h; obtain ⟨g23, h⟩ := h
  refine w_newa (ty := .int) (kd := 13) (t0 := 0) dX12_init_228 rfl wd_3_14 (Or.inl ⟨rfl, rfl, rfl⟩) g23.1 (by decide) g23.2.1 g23.2.2.1 g23.2.2.2.1 g23.2.2.2.2 ?_
  replace h := e_grd h; obtain ⟨g24, h⟩ := h
  refine w_putQ (v := (some ((gN σ)))) dX12_init_230 fl_RX12_83 (Or.inr ⟨rfl, rfl⟩) (Or.inr ⟨rfl, rfl⟩) ⟨g24.1, Or.inl g24.2⟩ (Or.inr ⟨_, rfl⟩) ?_
  exact l_X12_init_0_233 _ _ _ _ h
set_option maxRecDepth 100000 in
set_option maxHeartbeats 4000000 in
theorem l_X12_init_0_216  (cu : Nat) (su : Nat) (σ : aSt) (o : Unit × aSt) (h : f_X12_init_0_216  cu su σ = some o) : AW false m_X12_init_0 216 [(0, va_rf (some (57)))] [] σ cu su none o.2 := by
  unfold f_X12_init_0_216 at h
  replace h := e_grd h; obtain ⟨gcu, h⟩ := h
  refine w_aload_n 0 ((some (57))) dX12_init_216 rfl rfl ?_
  refine w_sipush (v := 600) dX12_init_217 (by decide) ?_
  replace h := e_grd h; obtain ⟨g25, h⟩ := h
  refine w_newa (ty := .int) (kd := 13) (t0 := 0) dX12_init_220 rfl wd_3_14 (Or.inl ⟨rfl, rfl, rfl⟩) g25.1 (by decide) g25.2.1 g25.2.2.1 g25.2.2.2.1 g25.2.2.2.2 ?_
  replace h := e_grd h; obtain ⟨g26, h⟩ := h
  refine w_putQ (v := (some ((gN σ)))) dX12_init_222 fl_RX12_80 (Or.inr ⟨rfl, rfl⟩) (Or.inr ⟨rfl, rfl⟩) ⟨g26.1, Or.inl g26.2⟩ (Or.inr ⟨_, rfl⟩) ?_
  exact l_X12_init_0_225 _ _ _ _ h
set_option maxRecDepth 100000 in
set_option maxHeartbeats 4000000 in
theorem l_X12_init_0_209  (cu : Nat) (su : Nat) (σ : aSt) (o : Unit × aSt) (h : f_X12_init_0_209  cu su σ = some o) : AW false m_X12_init_0 209 [(0, va_rf (some (57)))] [] σ cu su none o.2 := by
  unfold f_X12_init_0_209 at h
  replace h := e_grd h; obtain ⟨gcu, h⟩ := h
  refine w_aload_n 0 ((some (57))) dX12_init_209 rfl rfl ?_
  refine w_iconst (v := 4) dX12_init_210 (by decide) ?_
  replace h := e_grd h; obtain ⟨g27, h⟩ := h
  refine w_newa (ty := .int) (kd := 13) (t0 := 0) dX12_init_211 rfl wd_3_14 (Or.inl ⟨rfl, rfl, rfl⟩) g27.1 (by decide) g27.2.1 g27.2.2.1 g27.2.2.2.1 g27.2.2.2.2 ?_
  replace h := e_grd h; obtain ⟨g28, h⟩ := h
  refine w_putQ (v := (some ((gN σ)))) dX12_init_213 fl_RX12_77 (Or.inr ⟨rfl, rfl⟩) (Or.inr ⟨rfl, rfl⟩) ⟨g28.1, Or.inl g28.2⟩ (Or.inr ⟨_, rfl⟩) ?_
  exact l_X12_init_0_216 _ _ _ _ h
set_option maxRecDepth 100000 in
set_option maxHeartbeats 4000000 in
theorem l_X12_init_0_200  (cu : Nat) (su : Nat) (σ : aSt) (o : Unit × aSt) (h : f_X12_init_0_200  cu su σ = some o) : AW false m_X12_init_0 200 [(0, va_rf (some (57)))] [] σ cu su none o.2 := by
  unfold f_X12_init_0_200 at h
  replace h := e_grd h; obtain ⟨gcu, h⟩ := h
  refine w_aload_n 0 ((some (57))) dX12_init_200 rfl rfl ?_
  refine w_sipush (v := 144) dX12_init_201 (by decide) ?_
  replace h := e_grd h; obtain ⟨g29, h⟩ := h
  refine w_newa (ty := .int) (kd := 13) (t0 := 0) dX12_init_204 rfl wd_3_14 (Or.inl ⟨rfl, rfl, rfl⟩) g29.1 (by decide) g29.2.1 g29.2.2.1 g29.2.2.2.1 g29.2.2.2.2 ?_
  replace h := e_grd h; obtain ⟨g30, h⟩ := h
  refine w_putQ (v := (some ((gN σ)))) dX12_init_206 fl_RX12_74 (Or.inr ⟨rfl, rfl⟩) (Or.inr ⟨rfl, rfl⟩) ⟨g30.1, Or.inl g30.2⟩ (Or.inr ⟨_, rfl⟩) ?_
  exact l_X12_init_0_209 _ _ _ _ h
set_option maxRecDepth 100000 in
set_option maxHeartbeats 4000000 in
theorem l_X12_init_0_192  (cu : Nat) (su : Nat) (σ : aSt) (o : Unit × aSt) (h : f_X12_init_0_192  cu su σ = some o) : AW false m_X12_init_0 192 [(0, va_rf (some (57)))] [] σ cu su none o.2 := by
  unfold f_X12_init_0_192 at h
  replace h := e_grd h; obtain ⟨gcu, h⟩ := h
  refine w_aload_n 0 ((some (57))) dX12_init_192 rfl rfl ?_
  refine w_bipush (v := 12) dX12_init_193 (by decide) ?_
  replace h := e_grd h; obtain ⟨g31, h⟩ := h
  refine w_newa (ty := .int) (kd := 13) (t0 := 0) dX12_init_195 rfl wd_3_14 (Or.inl ⟨rfl, rfl, rfl⟩) g31.1 (by decide) g31.2.1 g31.2.2.1 g31.2.2.2.1 g31.2.2.2.2 ?_
  replace h := e_grd h; obtain ⟨g32, h⟩ := h
  refine w_putQ (v := (some ((gN σ)))) dX12_init_197 fl_RX12_71 (Or.inr ⟨rfl, rfl⟩) (Or.inr ⟨rfl, rfl⟩) ⟨g32.1, Or.inl g32.2⟩ (Or.inr ⟨_, rfl⟩) ?_
  exact l_X12_init_0_200 _ _ _ _ h
set_option maxRecDepth 100000 in
set_option maxHeartbeats 4000000 in
theorem l_X12_init_0_184  (cu : Nat) (su : Nat) (σ : aSt) (o : Unit × aSt) (h : f_X12_init_0_184  cu su σ = some o) : AW false m_X12_init_0 184 [(0, va_rf (some (57)))] [] σ cu su none o.2 := by
  unfold f_X12_init_0_184 at h
  replace h := e_grd h; obtain ⟨gcu, h⟩ := h
  refine w_aload_n 0 ((some (57))) dX12_init_184 rfl rfl ?_
  refine w_bipush (v := 12) dX12_init_185 (by decide) ?_
  replace h := e_grd h; obtain ⟨g33, h⟩ := h
  refine w_newa (ty := .int) (kd := 13) (t0 := 0) dX12_init_187 rfl wd_3_14 (Or.inl ⟨rfl, rfl, rfl⟩) g33.1 (by decide) g33.2.1 g33.2.2.1 g33.2.2.2.1 g33.2.2.2.2 ?_
  replace h := e_grd h; obtain ⟨g34, h⟩ := h
  refine w_putQ (v := (some ((gN σ)))) dX12_init_189 fl_RX12_68 (Or.inr ⟨rfl, rfl⟩) (Or.inr ⟨rfl, rfl⟩) ⟨g34.1, Or.inl g34.2⟩ (Or.inr ⟨_, rfl⟩) ?_
  exact l_X12_init_0_192 _ _ _ _ h
set_option maxRecDepth 100000 in
set_option maxHeartbeats 4000000 in
theorem l_X12_init_0_175  (cu : Nat) (su : Nat) (σ : aSt) (o : Unit × aSt) (h : f_X12_init_0_175  cu su σ = some o) : AW false m_X12_init_0 175 [(0, va_rf (some (57)))] [] σ cu su none o.2 := by
  unfold f_X12_init_0_175 at h
  replace h := e_grd h; obtain ⟨gcu, h⟩ := h
  refine w_aload_n 0 ((some (57))) dX12_init_175 rfl rfl ?_
  refine w_sipush (v := 144) dX12_init_176 (by decide) ?_
  replace h := e_grd h; obtain ⟨g35, h⟩ := h
  refine w_newa (ty := .int) (kd := 13) (t0 := 0) dX12_init_179 rfl wd_3_14 (Or.inl ⟨rfl, rfl, rfl⟩) g35.1 (by decide) g35.2.1 g35.2.2.1 g35.2.2.2.1 g35.2.2.2.2 ?_
  replace h := e_grd h; obtain ⟨g36, h⟩ := h
  refine w_putQ (v := (some ((gN σ)))) dX12_init_181 fl_RX12_65 (Or.inr ⟨rfl, rfl⟩) (Or.inr ⟨rfl, rfl⟩) ⟨g36.1, Or.inl g36.2⟩ (Or.inr ⟨_, rfl⟩) ?_
  exact l_X12_init_0_184 _ _ _ _ h
set_option maxRecDepth 100000 in
set_option maxHeartbeats 4000000 in
theorem l_X12_init_0_167  (cu : Nat) (su : Nat) (σ : aSt) (o : Unit × aSt) (h : f_X12_init_0_167  cu su σ = some o) : AW false m_X12_init_0 167 [(0, va_rf (some (57)))] [] σ cu su none o.2 := by
  unfold f_X12_init_0_167 at h
  replace h := e_grd h; obtain ⟨gcu, h⟩ := h
  refine w_aload_n 0 ((some (57))) dX12_init_167 rfl rfl ?_
  refine w_bipush (v := 12) dX12_init_168 (by decide) ?_
  replace h := e_grd h; obtain ⟨g37, h⟩ := h
  refine w_newa (ty := .int) (kd := 13) (t0 := 0) dX12_init_170 rfl wd_3_14 (Or.inl ⟨rfl, rfl, rfl⟩) g37.1 (by decide) g37.2.1 g37.2.2.1 g37.2.2.2.1 g37.2.2.2.2 ?_
  replace h := e_grd h; obtain ⟨g38, h⟩ := h
  refine w_putQ (v := (some ((gN σ)))) dX12_init_172 fl_RX12_62 (Or.inr ⟨rfl, rfl⟩) (Or.inr ⟨rfl, rfl⟩) ⟨g38.1, Or.inl g38.2⟩ (Or.inr ⟨_, rfl⟩) ?_
  exact l_X12_init_0_175 _ _ _ _ h
set_option maxRecDepth 100000 in
set_option maxHeartbeats 4000000 in
theorem l_X12_init_0_159  (cu : Nat) (su : Nat) (σ : aSt) (o : Unit × aSt) (h : f_X12_init_0_159  cu su σ = some o) : AW false m_X12_init_0 159 [(0, va_rf (some (57)))] [] σ cu su none o.2 := by
  unfold f_X12_init_0_159 at h
  replace h := e_grd h; obtain ⟨gcu, h⟩ := h
  refine w_aload_n 0 ((some (57))) dX12_init_159 rfl rfl ?_
  refine w_bipush (v := 12) dX12_init_160 (by decide) ?_
  replace h := e_grd h; obtain ⟨g39, h⟩ := h
  refine w_newa (ty := .int) (kd := 13) (t0 := 0) dX12_init_162 rfl wd_3_14 (Or.inl ⟨rfl, rfl, rfl⟩) g39.1 (by decide) g39.2.1 g39.2.2.1 g39.2.2.2.1 g39.2.2.2.2 ?_
  replace h := e_grd h; obtain ⟨g40, h⟩ := h
  refine w_putQ (v := (some ((gN σ)))) dX12_init_164 fl_RX12_59 (Or.inr ⟨rfl, rfl⟩) (Or.inr ⟨rfl, rfl⟩) ⟨g40.1, Or.inl g40.2⟩ (Or.inr ⟨_, rfl⟩) ?_
  exact l_X12_init_0_167 _ _ _ _ h
set_option maxRecDepth 100000 in
set_option maxHeartbeats 4000000 in
theorem l_X12_init_0_151  (cu : Nat) (su : Nat) (σ : aSt) (o : Unit × aSt) (h : f_X12_init_0_151  cu su σ = some o) : AW false m_X12_init_0 151 [(0, va_rf (some (57)))] [] σ cu su none o.2 := by
  unfold f_X12_init_0_151 at h
  replace h := e_grd h; obtain ⟨gcu, h⟩ := h
  refine w_aload_n 0 ((some (57))) dX12_init_151 rfl rfl ?_
  refine w_bipush (v := 10) dX12_init_152 (by decide) ?_
  replace h := e_grd h; obtain ⟨g41, h⟩ := h
  refine w_newa (ty := .int) (kd := 13) (t0 := 0) dX12_init_154 rfl wd_3_14 (Or.inl ⟨rfl, rfl, rfl⟩) g41.1 (by decide) g41.2.1 g41.2.2.1 g41.2.2.2.1 g41.2.2.2.2 ?_
  replace h := e_grd h; obtain ⟨g42, h⟩ := h
  refine w_putQ (v := (some ((gN σ)))) dX12_init_156 fl_RX12_56 (Or.inr ⟨rfl, rfl⟩) (Or.inr ⟨rfl, rfl⟩) ⟨g42.1, Or.inl g42.2⟩ (Or.inr ⟨_, rfl⟩) ?_
  exact l_X12_init_0_159 _ _ _ _ h
set_option maxRecDepth 100000 in
set_option maxHeartbeats 4000000 in
theorem l_X12_init_0_145  (cu : Nat) (su : Nat) (σ : aSt) (o : Unit × aSt) (h : f_X12_init_0_145  cu su σ = some o) : AW false m_X12_init_0 145 [(0, va_rf (some (57)))] [] σ cu su none o.2 := by
  unfold f_X12_init_0_145 at h
  replace h := e_grd h; obtain ⟨gcu, h⟩ := h
  refine w_aload_n 0 ((some (57))) dX12_init_145 rfl rfl ?_
  refine w_bipush (v := 20) dX12_init_146 (by decide) ?_
  replace h := e_grd h; obtain ⟨g43, h⟩ := h
  refine w_putI dX12_init_148 fl_RX12_53 (Or.inl rfl) rfl ⟨g43.1, Or.inl g43.2⟩ ?_
  exact l_X12_init_0_151 _ _ _ _ h
set_option maxRecDepth 100000 in
set_option maxHeartbeats 4000000 in
theorem l_X12_init_0_139  (cu : Nat) (su : Nat) (σ : aSt) (o : Unit × aSt) (h : f_X12_init_0_139  cu su σ = some o) : AW false m_X12_init_0 139 [(0, va_rf (some (57)))] [] σ cu su none o.2 := by
  unfold f_X12_init_0_139 at h
  replace h := e_grd h; obtain ⟨gcu, h⟩ := h
  refine w_aload_n 0 ((some (57))) dX12_init_139 rfl rfl ?_
  refine w_bipush (v := 10) dX12_init_140 (by decide) ?_
  replace h := e_grd h; obtain ⟨g44, h⟩ := h
  refine w_putI dX12_init_142 fl_RX12_50 (Or.inl rfl) rfl ⟨g44.1, Or.inl g44.2⟩ ?_
  exact l_X12_init_0_145 _ _ _ _ h
set_option maxRecDepth 100000 in
set_option maxHeartbeats 4000000 in
theorem l_X12_init_0_133  (cu : Nat) (su : Nat) (σ : aSt) (o : Unit × aSt) (h : f_X12_init_0_133  cu su σ = some o) : AW false m_X12_init_0 133 [(0, va_rf (some (57)))] [] σ cu su none o.2 := by
  unfold f_X12_init_0_133 at h
  replace h := e_grd h; obtain ⟨gcu, h⟩ := h
  refine w_aload_n 0 ((some (57))) dX12_init_133 rfl rfl ?_
  refine w_bipush (v := 50) dX12_init_134 (by decide) ?_
  replace h := e_grd h; obtain ⟨g45, h⟩ := h
  refine w_putI dX12_init_136 fl_RX12_47 (Or.inl rfl) rfl ⟨g45.1, Or.inl g45.2⟩ ?_
  exact l_X12_init_0_139 _ _ _ _ h
set_option maxRecDepth 100000 in
set_option maxHeartbeats 4000000 in
theorem l_X12_init_0_127  (cu : Nat) (su : Nat) (σ : aSt) (o : Unit × aSt) (h : f_X12_init_0_127  cu su σ = some o) : AW false m_X12_init_0 127 [(0, va_rf (some (57)))] [] σ cu su none o.2 := by
  unfold f_X12_init_0_127 at h
  replace h := e_grd h; obtain ⟨gcu, h⟩ := h
  refine w_aload_n 0 ((some (57))) dX12_init_127 rfl rfl ?_
  refine w_bipush (v := 100) dX12_init_128 (by decide) ?_
  replace h := e_grd h; obtain ⟨g46, h⟩ := h
  refine w_putI dX12_init_130 fl_RX12_43 (Or.inl rfl) rfl ⟨g46.1, Or.inl g46.2⟩ ?_
  exact l_X12_init_0_133 _ _ _ _ h
set_option maxRecDepth 100000 in
set_option maxHeartbeats 4000000 in
theorem l_X12_init_0_119  (cu : Nat) (su : Nat) (σ : aSt) (o : Unit × aSt) (h : f_X12_init_0_119  cu su σ = some o) : AW false m_X12_init_0 119 [(0, va_rf (some (57)))] [] σ cu su none o.2 := by
  unfold f_X12_init_0_119 at h
  replace h := e_grd h; obtain ⟨gcu, h⟩ := h
  refine w_aload_n 0 ((some (57))) dX12_init_119 rfl rfl ?_
  refine w_bipush (v := 120) dX12_init_120 (by decide) ?_
  replace h := e_grd h; obtain ⟨g47, h⟩ := h
  refine w_newa (ty := .int) (kd := 13) (t0 := 0) dX12_init_122 rfl wd_3_14 (Or.inl ⟨rfl, rfl, rfl⟩) g47.1 (by decide) g47.2.1 g47.2.2.1 g47.2.2.2.1 g47.2.2.2.2 ?_
  replace h := e_grd h; obtain ⟨g48, h⟩ := h
  refine w_putQ (v := (some ((gN σ)))) dX12_init_124 fl_RX12_40 (Or.inr ⟨rfl, rfl⟩) (Or.inr ⟨rfl, rfl⟩) ⟨g48.1, Or.inl g48.2⟩ (Or.inr ⟨_, rfl⟩) ?_
  exact l_X12_init_0_127 _ _ _ _ h
set_option maxRecDepth 100000 in
set_option maxHeartbeats 4000000 in
theorem l_X12_init_0_111  (cu : Nat) (su : Nat) (σ : aSt) (o : Unit × aSt) (h : f_X12_init_0_111  cu su σ = some o) : AW false m_X12_init_0 111 [(0, va_rf (some (57)))] [] σ cu su none o.2 := by
  unfold f_X12_init_0_111 at h
  replace h := e_grd h; obtain ⟨gcu, h⟩ := h
  refine w_aload_n 0 ((some (57))) dX12_init_111 rfl rfl ?_
  refine w_bipush (v := 120) dX12_init_112 (by decide) ?_
  replace h := e_grd h; obtain ⟨g49, h⟩ := h
  refine w_newa (ty := .int) (kd := 13) (t0 := 0) dX12_init_114 rfl wd_3_14 (Or.inl ⟨rfl, rfl, rfl⟩) g49.1 (by decide) g49.2.1 g49.2.2.1 g49.2.2.2.1 g49.2.2.2.2 ?_
  replace h := e_grd h; obtain ⟨g50, h⟩ := h
  refine w_putQ (v := (some ((gN σ)))) dX12_init_116 fl_RX12_37 (Or.inr ⟨rfl, rfl⟩) (Or.inr ⟨rfl, rfl⟩) ⟨g50.1, Or.inl g50.2⟩ (Or.inr ⟨_, rfl⟩) ?_
  exact l_X12_init_0_119 _ _ _ _ h
set_option maxRecDepth 100000 in
set_option maxHeartbeats 4000000 in
theorem l_X12_init_0_103  (cu : Nat) (su : Nat) (σ : aSt) (o : Unit × aSt) (h : f_X12_init_0_103  cu su σ = some o) : AW false m_X12_init_0 103 [(0, va_rf (some (57)))] [] σ cu su none o.2 := by
  unfold f_X12_init_0_103 at h
  replace h := e_grd h; obtain ⟨gcu, h⟩ := h
  refine w_aload_n 0 ((some (57))) dX12_init_103 rfl rfl ?_
  refine w_bipush (v := 120) dX12_init_104 (by decide) ?_
  replace h := e_grd h; obtain ⟨g51, h⟩ := h
  refine w_newa (ty := .int) (kd := 13) (t0 := 0) dX12_init_106 rfl wd_3_14 (Or.inl ⟨rfl, rfl, rfl⟩) g51.1 (by decide) g51.2.1 g51.2.2.1 g51.2.2.2.1 g51.2.2.2.2 ?_
  replace h := e_grd h; obtain ⟨g52, h⟩ := h
  refine w_putQ (v := (some ((gN σ)))) dX12_init_108 fl_RX12_34 (Or.inr ⟨rfl, rfl⟩) (Or.inr ⟨rfl, rfl⟩) ⟨g52.1, Or.inl g52.2⟩ (Or.inr ⟨_, rfl⟩) ?_
  exact l_X12_init_0_111 _ _ _ _ h
set_option maxRecDepth 100000 in
set_option maxHeartbeats 4000000 in
theorem l_X12_init_0_95  (cu : Nat) (su : Nat) (σ : aSt) (o : Unit × aSt) (h : f_X12_init_0_95  cu su σ = some o) : AW false m_X12_init_0 95 [(0, va_rf (some (57)))] [] σ cu su none o.2 := by
  unfold f_X12_init_0_95 at h
  replace h := e_grd h; obtain ⟨gcu, h⟩ := h
  refine w_aload_n 0 ((some (57))) dX12_init_95 rfl rfl ?_
  refine w_bipush (v := 120) dX12_init_96 (by decide) ?_
  replace h := e_grd h; obtain ⟨g53, h⟩ := h
  refine w_newa (ty := .int) (kd := 13) (t0 := 0) dX12_init_98 rfl wd_3_14 (Or.inl ⟨rfl, rfl, rfl⟩) g53.1 (by decide) g53.2.1 g53.2.2.1 g53.2.2.2.1 g53.2.2.2.2 ?_
  replace h := e_grd h; obtain ⟨g54, h⟩ := h
  refine w_putQ (v := (some ((gN σ)))) dX12_init_100 fl_RX12_31 (Or.inr ⟨rfl, rfl⟩) (Or.inr ⟨rfl, rfl⟩) ⟨g54.1, Or.inl g54.2⟩ (Or.inr ⟨_, rfl⟩) ?_
  exact l_X12_init_0_103 _ _ _ _ h
set_option maxRecDepth 100000 in
set_option maxHeartbeats 4000000 in
theorem l_X12_init_0_87  (cu : Nat) (su : Nat) (σ : aSt) (o : Unit × aSt) (h : f_X12_init_0_87  cu su σ = some o) : AW false m_X12_init_0 87 [(0, va_rf (some (57)))] [] σ cu su none o.2 := by
  unfold f_X12_init_0_87 at h
  replace h := e_grd h; obtain ⟨gcu, h⟩ := h
  refine w_aload_n 0 ((some (57))) dX12_init_87 rfl rfl ?_
  refine w_bipush (v := 120) dX12_init_88 (by decide) ?_
  replace h := e_grd h; obtain ⟨g55, h⟩ := h
  refine w_newa (ty := .int) (kd := 13) (t0 := 0) dX12_init_90 rfl wd_3_14 (Or.inl ⟨rfl, rfl, rfl⟩) g55.1 (by decide) g55.2.1 g55.2.2.1 g55.2.2.2.1 g55.2.2.2.2 ?_
  replace h := e_grd h; obtain ⟨g56, h⟩ := h
  refine w_putQ (v := (some ((gN σ)))) dX12_init_92 fl_RX12_28 (Or.inr ⟨rfl, rfl⟩) (Or.inr ⟨rfl, rfl⟩) ⟨g56.1, Or.inl g56.2⟩ (Or.inr ⟨_, rfl⟩) ?_
  exact l_X12_init_0_95 _ _ _ _ h
set_option maxRecDepth 100000 in
set_option maxHeartbeats 4000000 in
theorem l_X12_init_0_79  (cu : Nat) (su : Nat) (σ : aSt) (o : Unit × aSt) (h : f_X12_init_0_79  cu su σ = some o) : AW false m_X12_init_0 79 [(0, va_rf (some (57)))] [] σ cu su none o.2 := by
  unfold f_X12_init_0_79 at h
  replace h := e_grd h; obtain ⟨gcu, h⟩ := h
  refine w_aload_n 0 ((some (57))) dX12_init_79 rfl rfl ?_
  refine w_bipush (v := 120) dX12_init_80 (by decide) ?_
  replace h := e_grd h; obtain ⟨g57, h⟩ := h
  refine w_newa (ty := .int) (kd := 13) (t0 := 0) dX12_init_82 rfl wd_3_14 (Or.inl ⟨rfl, rfl, rfl⟩) g57.1 (by decide) g57.2.1 g57.2.2.1 g57.2.2.2.1 g57.2.2.2.2 ?_
  replace h := e_grd h; obtain ⟨g58, h⟩ := h
  refine w_putQ (v := (some ((gN σ)))) dX12_init_84 fl_RX12_25 (Or.inr ⟨rfl, rfl⟩) (Or.inr ⟨rfl, rfl⟩) ⟨g58.1, Or.inl g58.2⟩ (Or.inr ⟨_, rfl⟩) ?_
  exact l_X12_init_0_87 _ _ _ _ h
set_option maxRecDepth 100000 in
set_option maxHeartbeats 4000000 in
theorem l_X12_init_0_71  (cu : Nat) (su : Nat) (σ : aSt) (o : Unit × aSt) (h : f_X12_init_0_71  cu su σ = some o) : AW false m_X12_init_0 71 [(0, va_rf (some (57)))] [] σ cu su none o.2 := by
  unfold f_X12_init_0_71 at h
  replace h := e_grd h; obtain ⟨gcu, h⟩ := h
  refine w_aload_n 0 ((some (57))) dX12_init_71 rfl rfl ?_
  refine w_bipush (v := 120) dX12_init_72 (by decide) ?_
  replace h := e_grd h; obtain ⟨g59, h⟩ := h
  refine w_newa (ty := .int) (kd := 13) (t0 := 0) dX12_init_74 rfl wd_3_14 (Or.inl ⟨rfl, rfl, rfl⟩) g59.1 (by decide) g59.2.1 g59.2.2.1 g59.2.2.2.1 g59.2.2.2.2 ?_
  replace h := e_grd h; obtain ⟨g60, h⟩ := h
  refine w_putQ (v := (some ((gN σ)))) dX12_init_76 fl_RX12_22 (Or.inr ⟨rfl, rfl⟩) (Or.inr ⟨rfl, rfl⟩) ⟨g60.1, Or.inl g60.2⟩ (Or.inr ⟨_, rfl⟩) ?_
  exact l_X12_init_0_79 _ _ _ _ h
set_option maxRecDepth 100000 in
set_option maxHeartbeats 4000000 in
theorem l_X12_init_0_63  (cu : Nat) (su : Nat) (σ : aSt) (o : Unit × aSt) (h : f_X12_init_0_63  cu su σ = some o) : AW false m_X12_init_0 63 [(0, va_rf (some (57)))] [] σ cu su none o.2 := by
  unfold f_X12_init_0_63 at h
  replace h := e_grd h; obtain ⟨gcu, h⟩ := h
  refine w_aload_n 0 ((some (57))) dX12_init_63 rfl rfl ?_
  refine w_bipush (v := 120) dX12_init_64 (by decide) ?_
  replace h := e_grd h; obtain ⟨g61, h⟩ := h
  refine w_newa (ty := .int) (kd := 13) (t0 := 0) dX12_init_66 rfl wd_3_14 (Or.inl ⟨rfl, rfl, rfl⟩) g61.1 (by decide) g61.2.1 g61.2.2.1 g61.2.2.2.1 g61.2.2.2.2 ?_
  replace h := e_grd h; obtain ⟨g62, h⟩ := h
  refine w_putQ (v := (some ((gN σ)))) dX12_init_68 fl_RX12_19 (Or.inr ⟨rfl, rfl⟩) (Or.inr ⟨rfl, rfl⟩) ⟨g62.1, Or.inl g62.2⟩ (Or.inr ⟨_, rfl⟩) ?_
  exact l_X12_init_0_71 _ _ _ _ h
set_option maxRecDepth 100000 in
set_option maxHeartbeats 4000000 in
theorem l_X12_init_0_54  (cu : Nat) (su : Nat) (σ : aSt) (o : Unit × aSt) (h : f_X12_init_0_54  cu su σ = some o) : AW false m_X12_init_0 54 [(0, va_rf (some (57)))] [] σ cu su none o.2 := by
  unfold f_X12_init_0_54 at h
  replace h := e_grd h; obtain ⟨gcu, h⟩ := h
  refine w_aload_n 0 ((some (57))) dX12_init_54 rfl rfl ?_
  refine w_sipush (v := 960) dX12_init_55 (by decide) ?_
  replace h := e_grd h; obtain ⟨g63, h⟩ := h
  refine w_newa (ty := .int) (kd := 13) (t0 := 0) dX12_init_58 rfl wd_3_14 (Or.inl ⟨rfl, rfl, rfl⟩) g63.1 (by decide) g63.2.1 g63.2.2.1 g63.2.2.2.1 g63.2.2.2.2 ?_
  replace h := e_grd h; obtain ⟨g64, h⟩ := h
  refine w_putQ (v := (some ((gN σ)))) dX12_init_60 fl_RX12_16 (Or.inr ⟨rfl, rfl⟩) (Or.inr ⟨rfl, rfl⟩) ⟨g64.1, Or.inl g64.2⟩ (Or.inr ⟨_, rfl⟩) ?_
  exact l_X12_init_0_63 _ _ _ _ h
set_option maxRecDepth 100000 in
set_option maxHeartbeats 4000000 in
theorem l_X12_init_0_46  (cu : Nat) (su : Nat) (σ : aSt) (o : Unit × aSt) (h : f_X12_init_0_46  cu su σ = some o) : AW false m_X12_init_0 46 [(0, va_rf (some (57)))] [] σ cu su none o.2 := by
  unfold f_X12_init_0_46 at h
  replace h := e_grd h; obtain ⟨gcu, h⟩ := h
  refine w_aload_n 0 ((some (57))) dX12_init_46 rfl rfl ?_
  refine w_bipush (v := 8) dX12_init_47 (by decide) ?_
  replace h := e_grd h; obtain ⟨g65, h⟩ := h
  refine w_newa (ty := .int) (kd := 13) (t0 := 0) dX12_init_49 rfl wd_3_14 (Or.inl ⟨rfl, rfl, rfl⟩) g65.1 (by decide) g65.2.1 g65.2.2.1 g65.2.2.2.1 g65.2.2.2.2 ?_
  replace h := e_grd h; obtain ⟨g66, h⟩ := h
  refine w_putQ (v := (some ((gN σ)))) dX12_init_51 fl_RX12_13 (Or.inr ⟨rfl, rfl⟩) (Or.inr ⟨rfl, rfl⟩) ⟨g66.1, Or.inl g66.2⟩ (Or.inr ⟨_, rfl⟩) ?_
  exact l_X12_init_0_54 _ _ _ _ h
set_option maxRecDepth 100000 in
set_option maxHeartbeats 4000000 in
theorem c_X12_init_0  (σ : aSt) (o : Unit × aSt) (h : f_X12_init_0  σ = some o) : AM false m_X12_init_0 [va_rf (some (57))] σ none o.2 := by
  refine AM_of2 (lv := [(0, va_rf (some (57)))]) (by decide +kernel) rfl (Nat.le_of_ble_eq_true rfl) ?_
  unfold f_X12_init_0 at h
  refine w_aload_n 0 ((some (57))) dX12_init_0 rfl rfl ?_
  refine w_objInit dX12_init_1 wd_8_7 wd_1_11 wd_1_12 (by decide) (by decide) ?_
  refine w_aload_n 0 ((some (57))) dX12_init_4 rfl rfl ?_
  refine w_bipush (v := 8) dX12_init_5 (by decide) ?_
  replace h := e_grd h; obtain ⟨g1, h⟩ := h
  refine w_newa (ty := .int) (kd := 13) (t0 := 0) dX12_init_7 rfl wd_3_14 (Or.inl ⟨rfl, rfl, rfl⟩) g1.1 (by decide) g1.2.1 g1.2.2.1 g1.2.2.2.1 g1.2.2.2.2 ?_
  refine w_dup dX12_init_9 (aRf_cat _) ?_
  refine w_iconst (v := 0) dX12_init_10 (by decide) ?_
  refine w_iconst (v := (-1)) dX12_init_11 (by decide) ?_
  replace h := e_grd h; obtain ⟨b2, h⟩ := h
  refine w_iastore dX12_init_12 ⟨g1.1, Or.inl (Nat.lt_succ_self _)⟩ b2 ?_
  refine w_dup dX12_init_13 (aRf_cat _) ?_
  refine w_iconst (v := 1) dX12_init_14 (by decide) ?_
  refine w_iconst (v := (-1)) dX12_init_15 (by decide) ?_
  replace h := e_grd h; obtain ⟨b3, h⟩ := h
  refine w_iastore dX12_init_16 ⟨g1.1, Or.inl (Nat.lt_succ_self _)⟩ b3 ?_
  refine w_dup dX12_init_17 (aRf_cat _) ?_
  refine w_iconst (v := 2) dX12_init_18 (by decide) ?_
  refine w_iconst (v := (-1)) dX12_init_19 (by decide) ?_
  replace h := e_grd h; obtain ⟨b4, h⟩ := h
  refine w_iastore dX12_init_20 ⟨g1.1, Or.inl (Nat.lt_succ_self _)⟩ b4 ?_
  refine w_dup dX12_init_21 (aRf_cat _) ?_
  refine w_iconst (v := 3) dX12_init_22 (by decide) ?_
  refine w_iconst (v := (-1)) dX12_init_23 (by decide) ?_
  replace h := e_grd h; obtain ⟨b5, h⟩ := h
  refine w_iastore dX12_init_24 ⟨g1.1, Or.inl (Nat.lt_succ_self _)⟩ b5 ?_
  refine w_dup dX12_init_25 (aRf_cat _) ?_
  refine w_iconst (v := 4) dX12_init_26 (by decide) ?_
  refine w_iconst (v := (-1)) dX12_init_27 (by decide) ?_
  replace h := e_grd h; obtain ⟨b6, h⟩ := h
  refine w_iastore dX12_init_28 ⟨g1.1, Or.inl (Nat.lt_succ_self _)⟩ b6 ?_
  refine w_dup dX12_init_29 (aRf_cat _) ?_
  refine w_iconst (v := 5) dX12_init_30 (by decide) ?_
  refine w_iconst (v := (-1)) dX12_init_31 (by decide) ?_
  replace h := e_grd h; obtain ⟨b7, h⟩ := h
  refine w_iastore dX12_init_32 ⟨g1.1, Or.inl (Nat.lt_succ_self _)⟩ b7 ?_
  refine w_dup dX12_init_33 (aRf_cat _) ?_
  refine w_bipush (v := 6) dX12_init_34 (by decide) ?_
  refine w_iconst (v := (-1)) dX12_init_36 (by decide) ?_
  replace h := e_grd h; obtain ⟨b8, h⟩ := h
  refine w_iastore dX12_init_37 ⟨g1.1, Or.inl (Nat.lt_succ_self _)⟩ b8 ?_
  refine w_dup dX12_init_38 (aRf_cat _) ?_
  refine w_bipush (v := 7) dX12_init_39 (by decide) ?_
  refine w_iconst (v := (-1)) dX12_init_41 (by decide) ?_
  replace h := e_grd h; obtain ⟨b9, h⟩ := h
  refine w_iastore dX12_init_42 ⟨g1.1, Or.inl (Nat.lt_succ_self _)⟩ b9 ?_
  replace h := e_grd h; obtain ⟨g10, h⟩ := h
  refine w_putQ (v := (some ((gN σ)))) dX12_init_43 fl_RX12_7 (Or.inr ⟨rfl, rfl⟩) (Or.inr ⟨rfl, rfl⟩) ⟨g10.1, Or.inl g10.2⟩ (Or.inr ⟨_, rfl⟩) ?_
  exact l_X12_init_0_46 _ _ _ _ h
