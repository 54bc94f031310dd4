theorem wd_9_14 : Cond.methodLink RL 13 yX11_sheet ∈ wsL_law := wI_r9 _ (List.mem_of_getElem? (i := 14) rfl)
theorem wd_9_15 : Cond.instanceMethod yX11_sheet ∈ wsL_law := wI_r9 _ (List.mem_of_getElem? (i := 15) rfl)
theorem wd_9_16 : Cond.selects RX11 yX11_sheet yX11_sheet ∈ wsL_law := wI_r9 _ (List.mem_of_getElem? (i := 16) rfl)
theorem wd_10_15 : Cond.methodLink RL 17 yX12_sheet ∈ wsL_law := wI_r10 _ (List.mem_of_getElem? (i := 15) rfl)
theorem wd_10_16 : Cond.instanceMethod yX12_sheet ∈ wsL_law := wI_r10 _ (List.mem_of_getElem? (i := 16) rfl)
theorem wd_10_17 : Cond.selects RX12 yX12_sheet yX12_sheet ∈ wsL_law := wI_r10 _ (List.mem_of_getElem? (i := 17) rfl)
theorem wd_11_11 : Cond.methodLink RL 18 yX11_set ∈ wsL_law := wI_r11 _ (List.mem_of_getElem? (i := 11) rfl)
theorem wd_11_12 : Cond.instanceMethod yX11_set ∈ wsL_law := wI_r11 _ (List.mem_of_getElem? (i := 12) rfl)
theorem wd_11_13 : Cond.selects RX11 yX11_set yX11_set ∈ wsL_law := wI_r11 _ (List.mem_of_getElem? (i := 13) rfl)
theorem wd_12_1 : Cond.methodLink RL 21 yX12_set ∈ wsL_law := wI_r12 _ (List.mem_of_getElem? (i := 1) rfl)
theorem wd_12_2 : Cond.instanceMethod yX12_set ∈ wsL_law := wI_r12 _ (List.mem_of_getElem? (i := 2) rfl)
theorem wd_12_3 : Cond.selects RX12 yX12_set yX12_set ∈ wsL_law := wI_r12 _ (List.mem_of_getElem? (i := 3) rfl)
theorem wd_12_5 : Cond.methodLink RL 22 yX11_copy ∈ wsL_law := wI_r12 _ (List.mem_of_getElem? (i := 5) rfl)
theorem wd_12_6 : Cond.instanceMethod yX11_copy ∈ wsL_law := wI_r12 _ (List.mem_of_getElem? (i := 6) rfl)
theorem wd_12_7 : Cond.selects RX11 yX11_copy yX11_copy ∈ wsL_law := wI_r12 _ (List.mem_of_getElem? (i := 7) rfl)
theorem wd_12_15 : Cond.methodLink RL 26 yX12_copy ∈ wsL_law := wI_r12 _ (List.mem_of_getElem? (i := 15) rfl)
theorem wd_12_16 : Cond.instanceMethod yX12_copy ∈ wsL_law := wI_r12 _ (List.mem_of_getElem? (i := 16) rfl)
theorem wd_12_17 : Cond.selects RX12 yX12_copy yX12_copy ∈ wsL_law := wI_r12 _ (List.mem_of_getElem? (i := 17) rfl)
theorem wd_12_19 : Cond.methodLink RL 27 yX11_drop ∈ wsL_law := wI_r12 _ (List.mem_of_getElem? (i := 19) rfl)
theorem wd_12_20 : Cond.instanceMethod yX11_drop ∈ wsL_law := wI_r12 _ (List.mem_of_getElem? (i := 20) rfl)
theorem wd_12_21 : Cond.selects RX11 yX11_drop yX11_drop ∈ wsL_law := wI_r12 _ (List.mem_of_getElem? (i := 21) rfl)
theorem wd_13_0 : Cond.methodLink RL 31 yX12_drop ∈ wsL_law := wI_r13 _ (List.mem_of_getElem? (i := 0) rfl)
theorem wd_13_1 : Cond.instanceMethod yX12_drop ∈ wsL_law := wI_r13 _ (List.mem_of_getElem? (i := 1) rfl)
theorem wd_13_2 : Cond.selects RX12 yX12_drop yX12_drop ∈ wsL_law := wI_r13 _ (List.mem_of_getElem? (i := 2) rfl)
theorem wd_13_4 : Cond.methodLink RL 32 yX11_pay ∈ wsL_law := wI_r13 _ (List.mem_of_getElem? (i := 4) rfl)
theorem wd_13_5 : Cond.instanceMethod yX11_pay ∈ wsL_law := wI_r13 _ (List.mem_of_getElem? (i := 5) rfl)
theorem wd_13_6 : Cond.selects RX11 yX11_pay yX11_pay ∈ wsL_law := wI_r13 _ (List.mem_of_getElem? (i := 6) rfl)
theorem wd_14_23 : Cond.methodLink RL 36 yX12_pay ∈ wsL_law := wI_r14 _ (List.mem_of_getElem? (i := 23) rfl)
theorem wd_15_0 : Cond.instanceMethod yX12_pay ∈ wsL_law := wI_r15 _ (List.mem_of_getElem? (i := 0) rfl)
theorem wd_15_1 : Cond.selects RX12 yX12_pay yX12_pay ∈ wsL_law := wI_r15 _ (List.mem_of_getElem? (i := 1) rfl)
theorem wd_15_23 : Cond.methodLink RL 37 yX11_batch ∈ wsL_law := wI_r15 _ (List.mem_of_getElem? (i := 23) rfl)
theorem wd_16_0 : Cond.instanceMethod yX11_batch ∈ wsL_law := wI_r16 _ (List.mem_of_getElem? (i := 0) rfl)
theorem wd_16_1 : Cond.selects RX11 yX11_batch yX11_batch ∈ wsL_law := wI_r16 _ (List.mem_of_getElem? (i := 1) rfl)
theorem wd_16_7 : Cond.methodLink RL 40 yX12_batch ∈ wsL_law := wI_r16 _ (List.mem_of_getElem? (i := 7) rfl)
theorem wd_16_8 : Cond.instanceMethod yX12_batch ∈ wsL_law := wI_r16 _ (List.mem_of_getElem? (i := 8) rfl)
theorem wd_16_9 : Cond.selects RX12 yX12_batch yX12_batch ∈ wsL_law := wI_r16 _ (List.mem_of_getElem? (i := 9) rfl)
theorem wd_16_12 : Cond.methodLink RL 41 yX11_told ∈ wsL_law := wI_r16 _ (List.mem_of_getElem? (i := 12) rfl)
theorem wd_16_13 : Cond.instanceMethod yX11_told ∈ wsL_law := wI_r16 _ (List.mem_of_getElem? (i := 13) rfl)
theorem wd_16_14 : Cond.selects RX11 yX11_told yX11_told ∈ wsL_law := wI_r16 _ (List.mem_of_getElem? (i := 14) rfl)
theorem wd_16_22 : Cond.methodLink RL 45 yX12_told ∈ wsL_law := wI_r16 _ (List.mem_of_getElem? (i := 22) rfl)
theorem wd_16_23 : Cond.instanceMethod yX12_told ∈ wsL_law := wI_r16 _ (List.mem_of_getElem? (i := 23) rfl)
theorem wd_17_0 : Cond.selects RX12 yX12_told yX12_told ∈ wsL_law := wI_r17 _ (List.mem_of_getElem? (i := 0) rfl)
theorem wd_17_3 : Cond.methodLink RL 46 yX11_order ∈ wsL_law := wI_r17 _ (List.mem_of_getElem? (i := 3) rfl)
theorem wd_17_4 : Cond.instanceMethod yX11_order ∈ wsL_law := wI_r17 _ (List.mem_of_getElem? (i := 4) rfl)
theorem wd_17_5 : Cond.selects RX11 yX11_order yX11_order ∈ wsL_law := wI_r17 _ (List.mem_of_getElem? (i := 5) rfl)
theorem wd_17_13 : Cond.methodLink RL 49 yX12_order ∈ wsL_law := wI_r17 _ (List.mem_of_getElem? (i := 13) rfl)
theorem wd_17_14 : Cond.instanceMethod yX12_order ∈ wsL_law := wI_r17 _ (List.mem_of_getElem? (i := 14) rfl)
theorem wd_17_15 : Cond.selects RX12 yX12_order yX12_order ∈ wsL_law := wI_r17 _ (List.mem_of_getElem? (i := 15) rfl)
theorem wd_17_17 : Cond.methodLink RL 50 yX11_mark ∈ wsL_law := wI_r17 _ (List.mem_of_getElem? (i := 17) rfl)
theorem wd_17_18 : Cond.instanceMethod yX11_mark ∈ wsL_law := wI_r17 _ (List.mem_of_getElem? (i := 18) rfl)
theorem wd_17_19 : Cond.selects RX11 yX11_mark yX11_mark ∈ wsL_law := wI_r17 _ (List.mem_of_getElem? (i := 19) rfl)
theorem wd_18_5 : Cond.methodLink RL 53 yX12_mark ∈ wsL_law := wI_r18 _ (List.mem_of_getElem? (i := 5) rfl)
theorem wd_18_6 : Cond.instanceMethod yX12_mark ∈ wsL_law := wI_r18 _ (List.mem_of_getElem? (i := 6) rfl)
theorem wd_18_7 : Cond.selects RX12 yX12_mark yX12_mark ∈ wsL_law := wI_r18 _ (List.mem_of_getElem? (i := 7) rfl)
theorem wd_18_10 : Cond.methodLink RL 54 yX11_feature ∈ wsL_law := wI_r18 _ (List.mem_of_getElem? (i := 10) rfl)
theorem wd_18_11 : Cond.instanceMethod yX11_feature ∈ wsL_law := wI_r18 _ (List.mem_of_getElem? (i := 11) rfl)
theorem wd_18_12 : Cond.selects RX11 yX11_feature yX11_feature ∈ wsL_law := wI_r18 _ (List.mem_of_getElem? (i := 12) rfl)
theorem wd_20_17 : Cond.methodLink RL 57 yX12_feature ∈ wsL_law := wI_r20 _ (List.mem_of_getElem? (i := 17) rfl)
theorem wd_20_18 : Cond.instanceMethod yX12_feature ∈ wsL_law := wI_r20 _ (List.mem_of_getElem? (i := 18) rfl)
theorem wd_20_19 : Cond.selects RX12 yX12_feature yX12_feature ∈ wsL_law := wI_r20 _ (List.mem_of_getElem? (i := 19) rfl)
theorem wd_21_21 : Cond.methodLink RL 58 yX11_profile ∈ wsL_law := wI_r21 _ (List.mem_of_getElem? (i := 21) rfl)
theorem wd_21_22 : Cond.instanceMethod yX11_profile ∈ wsL_law := wI_r21 _ (List.mem_of_getElem? (i := 22) rfl)
theorem wd_21_23 : Cond.selects RX11 yX11_profile yX11_profile ∈ wsL_law := wI_r21 _ (List.mem_of_getElem? (i := 23) rfl)
theorem wd_22_2 : Cond.methodLink RL 61 yX12_profile ∈ wsL_law := wI_r22 _ (List.mem_of_getElem? (i := 2) rfl)
theorem wd_22_3 : Cond.instanceMethod yX12_profile ∈ wsL_law := wI_r22 _ (List.mem_of_getElem? (i := 3) rfl)
theorem wd_22_4 : Cond.selects RX12 yX12_profile yX12_profile ∈ wsL_law := wI_r22 _ (List.mem_of_getElem? (i := 4) rfl)
theorem wd_1_6 : Cond.constantLong RL 62 (4294967295) ∈ wsL_law := wI_r1 _ (List.mem_of_getElem? (i := 6) rfl)
theorem wd_22_6 : Cond.methodLink RL 64 yX11_feed ∈ wsL_law := wI_r22 _ (List.mem_of_getElem? (i := 6) rfl)
theorem wd_22_7 : Cond.instanceMethod yX11_feed ∈ wsL_law := wI_r22 _ (List.mem_of_getElem? (i := 7) rfl)
theorem wd_22_8 : Cond.selects RX11 yX11_feed yX11_feed ∈ wsL_law := wI_r22 _ (List.mem_of_getElem? (i := 8) rfl)
theorem wd_22_15 : Cond.methodLink RL 68 yX12_feed ∈ wsL_law := wI_r22 _ (List.mem_of_getElem? (i := 15) rfl)
theorem wd_22_16 : Cond.instanceMethod yX12_feed ∈ wsL_law := wI_r22 _ (List.mem_of_getElem? (i := 16) rfl)
theorem wd_22_17 : Cond.selects RX12 yX12_feed yX12_feed ∈ wsL_law := wI_r22 _ (List.mem_of_getElem? (i := 17) rfl)
theorem wd_22_22 : Cond.methodLink RL 69 yX11_rules ∈ wsL_law := wI_r22 _ (List.mem_of_getElem? (i := 22) rfl)
theorem wd_22_23 : Cond.instanceMethod yX11_rules ∈ wsL_law := wI_r22 _ (List.mem_of_getElem? (i := 23) rfl)
theorem wd_23_0 : Cond.selects RX11 yX11_rules yX11_rules ∈ wsL_law := wI_r23 _ (List.mem_of_getElem? (i := 0) rfl)
theorem wd_29_14 : Cond.methodLink RL 73 yX12_rules ∈ wsL_law := wI_r29 _ (List.mem_of_getElem? (i := 14) rfl)
theorem wd_29_15 : Cond.instanceMethod yX12_rules ∈ wsL_law := wI_r29 _ (List.mem_of_getElem? (i := 15) rfl)
theorem wd_29_16 : Cond.selects RX12 yX12_rules yX12_rules ∈ wsL_law := wI_r29 _ (List.mem_of_getElem? (i := 16) rfl)
theorem wd_32_22 : Cond.methodLink RL 74 yX11_fault ∈ wsL_law := wI_r32 _ (List.mem_of_getElem? (i := 22) rfl)
theorem wd_32_23 : Cond.instanceMethod yX11_fault ∈ wsL_law := wI_r32 _ (List.mem_of_getElem? (i := 23) rfl)
theorem wd_33_0 : Cond.selects RX11 yX11_fault yX11_fault ∈ wsL_law := wI_r33 _ (List.mem_of_getElem? (i := 0) rfl)
theorem wd_33_2 : Cond.methodLink RL 77 yX12_fault ∈ wsL_law := wI_r33 _ (List.mem_of_getElem? (i := 2) rfl)
theorem wd_33_3 : Cond.instanceMethod yX12_fault ∈ wsL_law := wI_r33 _ (List.mem_of_getElem? (i := 3) rfl)
theorem wd_33_4 : Cond.selects RX12 yX12_fault yX12_fault ∈ wsL_law := wI_r33 _ (List.mem_of_getElem? (i := 4) rfl)
theorem wd_33_6 : Cond.methodLink RL 78 yX11_rule ∈ wsL_law := wI_r33 _ (List.mem_of_getElem? (i := 6) rfl)
theorem wd_33_7 : Cond.instanceMethod yX11_rule ∈ wsL_law := wI_r33 _ (List.mem_of_getElem? (i := 7) rfl)
theorem wd_33_8 : Cond.selects RX11 yX11_rule yX11_rule ∈ wsL_law := wI_r33 _ (List.mem_of_getElem? (i := 8) rfl)
theorem wd_33_11 : Cond.methodLink RL 81 yX12_rule ∈ wsL_law := wI_r33 _ (List.mem_of_getElem? (i := 11) rfl)
theorem wd_33_12 : Cond.instanceMethod yX12_rule ∈ wsL_law := wI_r33 _ (List.mem_of_getElem? (i := 12) rfl)
theorem wd_33_13 : Cond.selects RX12 yX12_rule yX12_rule ∈ wsL_law := wI_r33 _ (List.mem_of_getElem? (i := 13) rfl)
theorem wd_33_15 : Cond.methodLink RL 82 yX11_judged ∈ wsL_law := wI_r33 _ (List.mem_of_getElem? (i := 15) rfl)
theorem wd_33_16 : Cond.instanceMethod yX11_judged ∈ wsL_law := wI_r33 _ (List.mem_of_getElem? (i := 16) rfl)
theorem wd_33_17 : Cond.selects RX11 yX11_judged yX11_judged ∈ wsL_law := wI_r33 _ (List.mem_of_getElem? (i := 17) rfl)
theorem wd_36_0 : Cond.methodLink RL 85 yX12_judged ∈ wsL_law := wI_r36 _ (List.mem_of_getElem? (i := 0) rfl)
theorem wd_36_1 : Cond.instanceMethod yX12_judged ∈ wsL_law := wI_r36 _ (List.mem_of_getElem? (i := 1) rfl)
theorem wd_36_2 : Cond.selects RX12 yX12_judged yX12_judged ∈ wsL_law := wI_r36 _ (List.mem_of_getElem? (i := 2) rfl)
theorem wd_37_0 : Cond.methodLink RL 86 yX11_would ∈ wsL_law := wI_r37 _ (List.mem_of_getElem? (i := 0) rfl)
theorem wd_37_1 : Cond.instanceMethod yX11_would ∈ wsL_law := wI_r37 _ (List.mem_of_getElem? (i := 1) rfl)
theorem wd_37_2 : Cond.selects RX11 yX11_would yX11_would ∈ wsL_law := wI_r37 _ (List.mem_of_getElem? (i := 2) rfl)
theorem wd_37_10 : Cond.methodLink RL 89 yX12_would ∈ wsL_law := wI_r37 _ (List.mem_of_getElem? (i := 10) rfl)
theorem wd_37_11 : Cond.instanceMethod yX12_would ∈ wsL_law := wI_r37 _ (List.mem_of_getElem? (i := 11) rfl)
theorem wd_37_12 : Cond.selects RX12 yX12_would yX12_would ∈ wsL_law := wI_r37 _ (List.mem_of_getElem? (i := 12) rfl)
theorem wd_37_14 : Cond.methodLink RL 90 yX11_acts ∈ wsL_law := wI_r37 _ (List.mem_of_getElem? (i := 14) rfl)
theorem wd_37_15 : Cond.instanceMethod yX11_acts ∈ wsL_law := wI_r37 _ (List.mem_of_getElem? (i := 15) rfl)
theorem wd_37_16 : Cond.selects RX11 yX11_acts yX11_acts ∈ wsL_law := wI_r37 _ (List.mem_of_getElem? (i := 16) rfl)
theorem wd_38_4 : Cond.methodLink RL 93 yX12_acts ∈ wsL_law := wI_r38 _ (List.mem_of_getElem? (i := 4) rfl)
theorem wd_38_5 : Cond.instanceMethod yX12_acts ∈ wsL_law := wI_r38 _ (List.mem_of_getElem? (i := 5) rfl)
theorem wd_38_6 : Cond.selects RX12 yX12_acts yX12_acts ∈ wsL_law := wI_r38 _ (List.mem_of_getElem? (i := 6) rfl)
theorem wd_38_12 : Cond.methodLink RL 94 yX11_verdict ∈ wsL_law := wI_r38 _ (List.mem_of_getElem? (i := 12) rfl)
theorem wd_38_13 : Cond.instanceMethod yX11_verdict ∈ wsL_law := wI_r38 _ (List.mem_of_getElem? (i := 13) rfl)
theorem wd_38_14 : Cond.selects RX11 yX11_verdict yX11_verdict ∈ wsL_law := wI_r38 _ (List.mem_of_getElem? (i := 14) rfl)
theorem wd_38_16 : Cond.methodLink RL 97 yX12_verdict ∈ wsL_law := wI_r38 _ (List.mem_of_getElem? (i := 16) rfl)
theorem wd_38_17 : Cond.instanceMethod yX12_verdict ∈ wsL_law := wI_r38 _ (List.mem_of_getElem? (i := 17) rfl)
theorem wd_38_18 : Cond.selects RX12 yX12_verdict yX12_verdict ∈ wsL_law := wI_r38 _ (List.mem_of_getElem? (i := 18) rfl)
theorem wd_38_20 : Cond.methodLink RL 98 yX11_queue ∈ wsL_law := wI_r38 _ (List.mem_of_getElem? (i := 20) rfl)
theorem wd_38_21 : Cond.instanceMethod yX11_queue ∈ wsL_law := wI_r38 _ (List.mem_of_getElem? (i := 21) rfl)
theorem wd_38_22 : Cond.selects RX11 yX11_queue yX11_queue ∈ wsL_law := wI_r38 _ (List.mem_of_getElem? (i := 22) rfl)
theorem wd_39_14 : Cond.methodLink RL 101 yX12_queue ∈ wsL_law := wI_r39 _ (List.mem_of_getElem? (i := 14) rfl)
theorem wd_39_15 : Cond.instanceMethod yX12_queue ∈ wsL_law := wI_r39 _ (List.mem_of_getElem? (i := 15) rfl)
theorem wd_39_16 : Cond.selects RX12 yX12_queue yX12_queue ∈ wsL_law := wI_r39 _ (List.mem_of_getElem? (i := 16) rfl)
theorem wd_39_23 : Cond.methodLink RL 102 yX11_cost ∈ wsL_law := wI_r39 _ (List.mem_of_getElem? (i := 23) rfl)
theorem wd_40_0 : Cond.instanceMethod yX11_cost ∈ wsL_law := wI_r40 _ (List.mem_of_getElem? (i := 0) rfl)
theorem wd_40_1 : Cond.selects RX11 yX11_cost yX11_cost ∈ wsL_law := wI_r40 _ (List.mem_of_getElem? (i := 1) rfl)
theorem wd_40_5 : Cond.methodLink RL 105 yX12_cost ∈ wsL_law := wI_r40 _ (List.mem_of_getElem? (i := 5) rfl)
theorem wd_40_6 : Cond.instanceMethod yX12_cost ∈ wsL_law := wI_r40 _ (List.mem_of_getElem? (i := 6) rfl)
theorem wd_40_7 : Cond.selects RX12 yX12_cost yX12_cost ∈ wsL_law := wI_r40 _ (List.mem_of_getElem? (i := 7) rfl)
theorem wd_40_9 : Cond.methodLink RL 106 yX11_setting ∈ wsL_law := wI_r40 _ (List.mem_of_getElem? (i := 9) rfl)
theorem wd_40_10 : Cond.instanceMethod yX11_setting ∈ wsL_law := wI_r40 _ (List.mem_of_getElem? (i := 10) rfl)
theorem wd_40_11 : Cond.selects RX11 yX11_setting yX11_setting ∈ wsL_law := wI_r40 _ (List.mem_of_getElem? (i := 11) rfl)
theorem wd_41_12 : Cond.methodLink RL 110 yX12_setting ∈ wsL_law := wI_r41 _ (List.mem_of_getElem? (i := 12) rfl)
theorem wd_41_13 : Cond.instanceMethod yX12_setting ∈ wsL_law := wI_r41 _ (List.mem_of_getElem? (i := 13) rfl)
theorem wd_41_14 : Cond.selects RX12 yX12_setting yX12_setting ∈ wsL_law := wI_r41 _ (List.mem_of_getElem? (i := 14) rfl)
theorem wd_42_2 : Cond.methodLink RL 111 yX11_bestSetting ∈ wsL_law := wI_r42 _ (List.mem_of_getElem? (i := 2) rfl)
theorem wd_42_3 : Cond.instanceMethod yX11_bestSetting ∈ wsL_law := wI_r42 _ (List.mem_of_getElem? (i := 3) rfl)
theorem wd_42_4 : Cond.selects RX11 yX11_bestSetting yX11_bestSetting ∈ wsL_law := wI_r42 _ (List.mem_of_getElem? (i := 4) rfl)
theorem wd_42_23 : Cond.methodLink RL 115 yX12_bestSetting ∈ wsL_law := wI_r42 _ (List.mem_of_getElem? (i := 23) rfl)
theorem wd_43_0 : Cond.instanceMethod yX12_bestSetting ∈ wsL_law := wI_r43 _ (List.mem_of_getElem? (i := 0) rfl)
theorem wd_43_1 : Cond.selects RX12 yX12_bestSetting yX12_bestSetting ∈ wsL_law := wI_r43 _ (List.mem_of_getElem? (i := 1) rfl)
theorem wd_43_3 : Cond.methodLink RL 116 yX11_learnt ∈ wsL_law := wI_r43 _ (List.mem_of_getElem? (i := 3) rfl)
theorem wd_43_4 : Cond.instanceMethod yX11_learnt ∈ wsL_law := wI_r43 _ (List.mem_of_getElem? (i := 4) rfl)
theorem wd_43_5 : Cond.selects RX11 yX11_learnt yX11_learnt ∈ wsL_law := wI_r43 _ (List.mem_of_getElem? (i := 5) rfl)
theorem wd_44_6 : Cond.methodLink RL 119 yX12_learnt ∈ wsL_law := wI_r44 _ (List.mem_of_getElem? (i := 6) rfl)
theorem wd_44_7 : Cond.instanceMethod yX12_learnt ∈ wsL_law := wI_r44 _ (List.mem_of_getElem? (i := 7) rfl)
theorem wd_44_8 : Cond.selects RX12 yX12_learnt yX12_learnt ∈ wsL_law := wI_r44 _ (List.mem_of_getElem? (i := 8) rfl)
theorem wd_44_18 : Cond.methodLink RL 120 yX11_costs ∈ wsL_law := wI_r44 _ (List.mem_of_getElem? (i := 18) rfl)
theorem wd_44_19 : Cond.instanceMethod yX11_costs ∈ wsL_law := wI_r44 _ (List.mem_of_getElem? (i := 19) rfl)
theorem wd_44_20 : Cond.selects RX11 yX11_costs yX11_costs ∈ wsL_law := wI_r44 _ (List.mem_of_getElem? (i := 20) rfl)
theorem wd_44_22 : Cond.methodLink RL 123 yX12_costs ∈ wsL_law := wI_r44 _ (List.mem_of_getElem? (i := 22) rfl)
theorem wd_44_23 : Cond.instanceMethod yX12_costs ∈ wsL_law := wI_r44 _ (List.mem_of_getElem? (i := 23) rfl)
theorem wd_45_0 : Cond.selects RX12 yX12_costs yX12_costs ∈ wsL_law := wI_r45 _ (List.mem_of_getElem? (i := 0) rfl)
theorem wd_45_2 : Cond.methodLink RL 124 yX11_drift ∈ wsL_law := wI_r45 _ (List.mem_of_getElem? (i := 2) rfl)
theorem wd_45_3 : Cond.instanceMethod yX11_drift ∈ wsL_law := wI_r45 _ (List.mem_of_getElem? (i := 3) rfl)
theorem wd_45_4 : Cond.selects RX11 yX11_drift yX11_drift ∈ wsL_law := wI_r45 _ (List.mem_of_getElem? (i := 4) rfl)
theorem wd_46_15 : Cond.methodLink RL 128 yX12_drift ∈ wsL_law := wI_r46 _ (List.mem_of_getElem? (i := 15) rfl)
theorem wd_46_16 : Cond.instanceMethod yX12_drift ∈ wsL_law := wI_r46 _ (List.mem_of_getElem? (i := 16) rfl)
theorem wd_46_17 : Cond.selects RX12 yX12_drift yX12_drift ∈ wsL_law := wI_r46 _ (List.mem_of_getElem? (i := 17) rfl)
theorem wd_47_2 : Cond.methodLink RL 129 yX11_counted ∈ wsL_law := wI_r47 _ (List.mem_of_getElem? (i := 2) rfl)
theorem wd_47_3 : Cond.instanceMethod yX11_counted ∈ wsL_law := wI_r47 _ (List.mem_of_getElem? (i := 3) rfl)
theorem wd_47_4 : Cond.selects RX11 yX11_counted yX11_counted ∈ wsL_law := wI_r47 _ (List.mem_of_getElem? (i := 4) rfl)
theorem wd_47_12 : Cond.methodLink RL 132 yX12_counted ∈ wsL_law := wI_r47 _ (List.mem_of_getElem? (i := 12) rfl)
theorem wd_47_13 : Cond.instanceMethod yX12_counted ∈ wsL_law := wI_r47 _ (List.mem_of_getElem? (i := 13) rfl)
theorem wd_47_14 : Cond.selects RX12 yX12_counted yX12_counted ∈ wsL_law := wI_r47 _ (List.mem_of_getElem? (i := 14) rfl)
theorem wd_47_16 : Cond.methodLink RL 133 yX11_kind ∈ wsL_law := wI_r47 _ (List.mem_of_getElem? (i := 16) rfl)
theorem wd_47_17 : Cond.instanceMethod yX11_kind ∈ wsL_law := wI_r47 _ (List.mem_of_getElem? (i := 17) rfl)
theorem wd_47_18 : Cond.selects RX11 yX11_kind yX11_kind ∈ wsL_law := wI_r47 _ (List.mem_of_getElem? (i := 18) rfl)
theorem wd_48_0 : Cond.methodLink RL 136 yX12_kind ∈ wsL_law := wI_r48 _ (List.mem_of_getElem? (i := 0) rfl)
theorem wd_48_1 : Cond.instanceMethod yX12_kind ∈ wsL_law := wI_r48 _ (List.mem_of_getElem? (i := 1) rfl)
theorem wd_48_2 : Cond.selects RX12 yX12_kind yX12_kind ∈ wsL_law := wI_r48 _ (List.mem_of_getElem? (i := 2) rfl)
theorem wd_48_8 : Cond.methodLink RL 137 yX11_as ∈ wsL_law := wI_r48 _ (List.mem_of_getElem? (i := 8) rfl)
theorem wd_48_9 : Cond.instanceMethod yX11_as ∈ wsL_law := wI_r48 _ (List.mem_of_getElem? (i := 9) rfl)
theorem wd_48_10 : Cond.selects RX11 yX11_as yX11_as ∈ wsL_law := wI_r48 _ (List.mem_of_getElem? (i := 10) rfl)
theorem wd_48_12 : Cond.methodLink RL 140 yX12_as ∈ wsL_law := wI_r48 _ (List.mem_of_getElem? (i := 12) rfl)
theorem wd_48_13 : Cond.instanceMethod yX12_as ∈ wsL_law := wI_r48 _ (List.mem_of_getElem? (i := 13) rfl)
theorem wd_48_14 : Cond.selects RX12 yX12_as yX12_as ∈ wsL_law := wI_r48 _ (List.mem_of_getElem? (i := 14) rfl)
theorem wd_48_19 : Cond.methodLink RL 141 yX11_ask ∈ wsL_law := wI_r48 _ (List.mem_of_getElem? (i := 19) rfl)
theorem wd_48_20 : Cond.instanceMethod yX11_ask ∈ wsL_law := wI_r48 _ (List.mem_of_getElem? (i := 20) rfl)
theorem wd_48_21 : Cond.selects RX11 yX11_ask yX11_ask ∈ wsL_law := wI_r48 _ (List.mem_of_getElem? (i := 21) rfl)
theorem wd_49_10 : Cond.methodLink RL 144 yX12_ask ∈ wsL_law := wI_r49 _ (List.mem_of_getElem? (i := 10) rfl)
theorem wd_49_11 : Cond.instanceMethod yX12_ask ∈ wsL_law := wI_r49 _ (List.mem_of_getElem? (i := 11) rfl)
theorem wd_49_12 : Cond.selects RX12 yX12_ask yX12_ask ∈ wsL_law := wI_r49 _ (List.mem_of_getElem? (i := 12) rfl)
theorem wd_50_7 : Cond.methodLink RL 145 yX11_trace ∈ wsL_law := wI_r50 _ (List.mem_of_getElem? (i := 7) rfl)
theorem wd_50_8 : Cond.instanceMethod yX11_trace ∈ wsL_law := wI_r50 _ (List.mem_of_getElem? (i := 8) rfl)
theorem wd_50_9 : Cond.selects RX11 yX11_trace yX11_trace ∈ wsL_law := wI_r50 _ (List.mem_of_getElem? (i := 9) rfl)
theorem wd_50_13 : Cond.methodLink RL 148 yX12_trace ∈ wsL_law := wI_r50 _ (List.mem_of_getElem? (i := 13) rfl)
theorem wd_50_14 : Cond.instanceMethod yX12_trace ∈ wsL_law := wI_r50 _ (List.mem_of_getElem? (i := 14) rfl)
theorem wd_50_15 : Cond.selects RX12 yX12_trace yX12_trace ∈ wsL_law := wI_r50 _ (List.mem_of_getElem? (i := 15) rfl)
theorem wd_50_17 : Cond.methodLink RL 149 yX11_count ∈ wsL_law := wI_r50 _ (List.mem_of_getElem? (i := 17) rfl)
theorem wd_50_18 : Cond.instanceMethod yX11_count ∈ wsL_law := wI_r50 _ (List.mem_of_getElem? (i := 18) rfl)
theorem wd_50_19 : Cond.selects RX11 yX11_count yX11_count ∈ wsL_law := wI_r50 _ (List.mem_of_getElem? (i := 19) rfl)
theorem wd_51_8 : Cond.methodLink RL 152 yX12_count ∈ wsL_law := wI_r51 _ (List.mem_of_getElem? (i := 8) rfl)
theorem wd_51_9 : Cond.instanceMethod yX12_count ∈ wsL_law := wI_r51 _ (List.mem_of_getElem? (i := 9) rfl)
theorem wd_51_10 : Cond.selects RX12 yX12_count yX12_count ∈ wsL_law := wI_r51 _ (List.mem_of_getElem? (i := 10) rfl)
theorem wd_51_12 : Cond.methodLink RL 153 yX11_status ∈ wsL_law := wI_r51 _ (List.mem_of_getElem? (i := 12) rfl)
theorem wd_51_13 : Cond.instanceMethod yX11_status ∈ wsL_law := wI_r51 _ (List.mem_of_getElem? (i := 13) rfl)
theorem wd_51_14 : Cond.selects RX11 yX11_status yX11_status ∈ wsL_law := wI_r51 _ (List.mem_of_getElem? (i := 14) rfl)
theorem wd_51_16 : Cond.methodLink RL 156 yX12_status ∈ wsL_law := wI_r51 _ (List.mem_of_getElem? (i := 16) rfl)
theorem wd_51_17 : Cond.instanceMethod yX12_status ∈ wsL_law := wI_r51 _ (List.mem_of_getElem? (i := 17) rfl)
theorem wd_51_18 : Cond.selects RX12 yX12_status yX12_status ∈ wsL_law := wI_r51 _ (List.mem_of_getElem? (i := 18) rfl)
theorem wd_1_7 : Cond.methodLink RL 9 yX11_init ∈ wsL_law := wI_r1 _ (List.mem_of_getElem? (i := 7) rfl)
theorem wd_8_4 : Cond.methodLink RL 12 yX12_init ∈ wsL_law := wI_r8 _ (List.mem_of_getElem? (i := 4) rfl)
theorem wd_1_8 : Cond.instanceMethod yX11_init ∈ wsL_law := wI_r1 _ (List.mem_of_getElem? (i := 8) rfl)
theorem wd_8_5 : Cond.instanceMethod yX12_init ∈ wsL_law := wI_r8 _ (List.mem_of_getElem? (i := 5) rfl)
theorem wd_1_0 : Cond.classLink RL 7 RX11 ∈ wsL_law := wI_r1 _ (List.mem_of_getElem? (i := 0) rfl)
theorem wd_1_3 : Cond.classLink RL 10 RX12 ∈ wsL_law := wI_r1 _ (List.mem_of_getElem? (i := 3) rfl)
theorem dL_0 : decode code 0 = .ok (.new 7, 3) := by decide +kernel
theorem dL_3 : decode code 3 = .ok (.dup, 1) := by decide +kernel
theorem dL_4 : decode code 4 = .ok (.invokespecial 9, 3) := by decide +kernel
theorem dL_7 : decode code 7 = .ok (.astore_n 1, 1) := by decide +kernel
theorem dL_8 : decode code 8 = .ok (.new 10, 3) := by decide +kernel
theorem dL_11 : decode code 11 = .ok (.dup, 1) := by decide +kernel
theorem dL_12 : decode code 12 = .ok (.invokespecial 12, 3) := by decide +kernel
theorem dL_15 : decode code 15 = .ok (.astore_n 2, 1) := by decide +kernel
theorem dL_16 : decode code 16 = .ok (.iconst 0, 1) := by decide +kernel
theorem dL_17 : decode code 17 = .ok (.istore_n 3, 1) := by decide +kernel
theorem dL_18 : decode code 18 = .ok (.iload_n 3, 1) := by decide +kernel
theorem dL_19 : decode code 19 = .ok (.aload_n 0, 1) := by decide +kernel
theorem dL_20 : decode code 20 = .ok (.arraylength, 1) := by decide +kernel
theorem dL_21 : decode code 21 = .ok (.bipush 7, 2) := by decide +kernel
theorem dL_23 : decode code 23 = .ok (.isub, 1) := by decide +kernel
theorem dL_24 : decode code 24 = .ok (.if_icmp .gt 1288, 3) := by decide +kernel
theorem dL_27 : decode code 27 = .ok (.aload_n 0, 1) := by decide +kernel
theorem dL_28 : decode code 28 = .ok (.iload_n 3, 1) := by decide +kernel
theorem dL_29 : decode code 29 = .ok (.iaload, 1) := by decide +kernel
theorem dL_30 : decode code 30 = .ok (.bipush 63, 2) := by decide +kernel
theorem dL_32 : decode code 32 = .ok (.iand, 1) := by decide +kernel
theorem dL_33 : decode code 33 = .ok (.tableswitch 1273 0 32 #[147, 190, 233, 296, 319, 394, 437, 470, 493, 526, 569, 602, 665, 678, 691, 714, 757, 790, 813, 846, 869, 902, 936, 960, 984, 1018, 1082, 1125, 1148, 1181, 1214, 1237, 1260], 147) := by decide +kernel
theorem dL_180 : decode code 180 = .ok (.aload_n 1, 1) := by decide +kernel
theorem dL_196 : decode code 196 = .ok (.invokevirtual 13, 3) := by decide +kernel
theorem dL_199 : decode code 199 = .ok (.aload_n 2, 1) := by decide +kernel
theorem dL_215 : decode code 215 = .ok (.invokevirtual 17, 3) := by decide +kernel
theorem dL_218 : decode code 218 = .ok (.if_icmp .eq 1088, 3) := by decide +kernel
theorem dL_223 : decode code 223 = .ok (.aload_n 1, 1) := by decide +kernel
theorem dL_239 : decode code 239 = .ok (.invokevirtual 18, 3) := by decide +kernel
theorem dL_242 : decode code 242 = .ok (.aload_n 2, 1) := by decide +kernel
theorem dL_258 : decode code 258 = .ok (.invokevirtual 21, 3) := by decide +kernel
theorem dL_261 : decode code 261 = .ok (.if_icmp .eq 1045, 3) := by decide +kernel
theorem dL_266 : decode code 266 = .ok (.aload_n 1, 1) := by decide +kernel
theorem dL_292 : decode code 292 = .ok (.invokevirtual 22, 3) := by decide +kernel
theorem dL_295 : decode code 295 = .ok (.aload_n 2, 1) := by decide +kernel
theorem dL_321 : decode code 321 = .ok (.invokevirtual 26, 3) := by decide +kernel
theorem dL_324 : decode code 324 = .ok (.if_icmp .eq 982, 3) := by decide +kernel
theorem dL_329 : decode code 329 = .ok (.aload_n 1, 1) := by decide +kernel
theorem dL_335 : decode code 335 = .ok (.invokevirtual 27, 3) := by decide +kernel
theorem dL_338 : decode code 338 = .ok (.aload_n 2, 1) := by decide +kernel
theorem dL_344 : decode code 344 = .ok (.invokevirtual 31, 3) := by decide +kernel
theorem dL_347 : decode code 347 = .ok (.if_icmp .eq 959, 3) := by decide +kernel
theorem dL_352 : decode code 352 = .ok (.aload_n 1, 1) := by decide +kernel
theorem dL_384 : decode code 384 = .ok (.invokevirtual 32, 3) := by decide +kernel
theorem dL_387 : decode code 387 = .ok (.aload_n 2, 1) := by decide +kernel
theorem dL_419 : decode code 419 = .ok (.invokevirtual 36, 3) := by decide +kernel
theorem dL_422 : decode code 422 = .ok (.if_icmp .eq 884, 3) := by decide +kernel
theorem dL_427 : decode code 427 = .ok (.aload_n 1, 1) := by decide +kernel
theorem dL_443 : decode code 443 = .ok (.invokevirtual 37, 3) := by decide +kernel
theorem dL_446 : decode code 446 = .ok (.aload_n 2, 1) := by decide +kernel
theorem dL_462 : decode code 462 = .ok (.invokevirtual 40, 3) := by decide +kernel
theorem dL_465 : decode code 465 = .ok (.if_icmp .eq 841, 3) := by decide +kernel
theorem dL_470 : decode code 470 = .ok (.aload_n 1, 1) := by decide +kernel
theorem dL_481 : decode code 481 = .ok (.invokevirtual 41, 3) := by decide +kernel
theorem dL_484 : decode code 484 = .ok (.aload_n 2, 1) := by decide +kernel
theorem dL_495 : decode code 495 = .ok (.invokevirtual 45, 3) := by decide +kernel
theorem dL_498 : decode code 498 = .ok (.if_icmp .eq 808, 3) := by decide +kernel
theorem dL_503 : decode code 503 = .ok (.aload_n 1, 1) := by decide +kernel
theorem dL_509 : decode code 509 = .ok (.invokevirtual 46, 3) := by decide +kernel
theorem dL_512 : decode code 512 = .ok (.aload_n 2, 1) := by decide +kernel
theorem dL_518 : decode code 518 = .ok (.invokevirtual 49, 3) := by decide +kernel
theorem dL_521 : decode code 521 = .ok (.if_icmp .eq 785, 3) := by decide +kernel
theorem dL_526 : decode code 526 = .ok (.aload_n 1, 1) := by decide +kernel
theorem dL_537 : decode code 537 = .ok (.invokevirtual 50, 3) := by decide +kernel
theorem dL_540 : decode code 540 = .ok (.aload_n 2, 1) := by decide +kernel
theorem dL_551 : decode code 551 = .ok (.invokevirtual 53, 3) := by decide +kernel
theorem dL_554 : decode code 554 = .ok (.if_icmp .eq 752, 3) := by decide +kernel
theorem dL_559 : decode code 559 = .ok (.aload_n 1, 1) := by decide +kernel
theorem dL_575 : decode code 575 = .ok (.invokevirtual 54, 3) := by decide +kernel
theorem dL_578 : decode code 578 = .ok (.aload_n 2, 1) := by decide +kernel
theorem dL_594 : decode code 594 = .ok (.invokevirtual 57, 3) := by decide +kernel
theorem dL_597 : decode code 597 = .ok (.if_icmp .eq 709, 3) := by decide +kernel
theorem dL_602 : decode code 602 = .ok (.aload_n 1, 1) := by decide +kernel
theorem dL_613 : decode code 613 = .ok (.invokevirtual 58, 3) := by decide +kernel
theorem dL_616 : decode code 616 = .ok (.aload_n 2, 1) := by decide +kernel
theorem dL_627 : decode code 627 = .ok (.invokevirtual 61, 3) := by decide +kernel
theorem dL_630 : decode code 630 = .ok (.if_icmp .eq 676, 3) := by decide +kernel
theorem dL_635 : decode code 635 = .ok (.aload_n 1, 1) := by decide +kernel
theorem dL_641 : decode code 641 = .ok (.i2l, 1) := by decide +kernel
theorem dL_642 : decode code 642 = .ok (.bipush 32, 2) := by decide +kernel
theorem dL_644 : decode code 644 = .ok (.lshl, 1) := by decide +kernel
theorem dL_650 : decode code 650 = .ok (.i2l, 1) := by decide +kernel
theorem dL_651 : decode code 651 = .ok (.ldc2_w 62, 3) := by decide +kernel
theorem dL_654 : decode code 654 = .ok (.land, 1) := by decide +kernel
theorem dL_655 : decode code 655 = .ok (.lor, 1) := by decide +kernel
theorem dL_661 : decode code 661 = .ok (.invokevirtual 64, 3) := by decide +kernel
theorem dL_664 : decode code 664 = .ok (.aload_n 2, 1) := by decide +kernel
theorem dL_670 : decode code 670 = .ok (.i2l, 1) := by decide +kernel
theorem dL_671 : decode code 671 = .ok (.bipush 32, 2) := by decide +kernel
theorem dL_673 : decode code 673 = .ok (.lshl, 1) := by decide +kernel
theorem dL_679 : decode code 679 = .ok (.i2l, 1) := by decide +kernel
theorem dL_680 : decode code 680 = .ok (.ldc2_w 62, 3) := by decide +kernel
theorem dL_683 : decode code 683 = .ok (.land, 1) := by decide +kernel
theorem dL_684 : decode code 684 = .ok (.lor, 1) := by decide +kernel
theorem dL_690 : decode code 690 = .ok (.invokevirtual 68, 3) := by decide +kernel
theorem dL_693 : decode code 693 = .ok (.if_icmp .eq 613, 3) := by decide +kernel
theorem dL_698 : decode code 698 = .ok (.aload_n 1, 1) := by decide +kernel
theorem dL_699 : decode code 699 = .ok (.invokevirtual 69, 3) := by decide +kernel
theorem dL_702 : decode code 702 = .ok (.aload_n 2, 1) := by decide +kernel
theorem dL_703 : decode code 703 = .ok (.invokevirtual 73, 3) := by decide +kernel
theorem dL_706 : decode code 706 = .ok (.if_icmp .eq 600, 3) := by decide +kernel
theorem dL_711 : decode code 711 = .ok (.aload_n 1, 1) := by decide +kernel
theorem dL_712 : decode code 712 = .ok (.invokevirtual 74, 3) := by decide +kernel
theorem dL_715 : decode code 715 = .ok (.aload_n 2, 1) := by decide +kernel
theorem dL_716 : decode code 716 = .ok (.invokevirtual 77, 3) := by decide +kernel
theorem dL_719 : decode code 719 = .ok (.if_icmp .eq 587, 3) := by decide +kernel
theorem dL_724 : decode code 724 = .ok (.aload_n 1, 1) := by decide +kernel
theorem dL_730 : decode code 730 = .ok (.invokevirtual 78, 3) := by decide +kernel
theorem dL_733 : decode code 733 = .ok (.aload_n 2, 1) := by decide +kernel
theorem dL_739 : decode code 739 = .ok (.invokevirtual 81, 3) := by decide +kernel
theorem dL_742 : decode code 742 = .ok (.if_icmp .eq 564, 3) := by decide +kernel
theorem dL_747 : decode code 747 = .ok (.aload_n 1, 1) := by decide +kernel
theorem dL_763 : decode code 763 = .ok (.invokevirtual 82, 3) := by decide +kernel
theorem dL_766 : decode code 766 = .ok (.aload_n 2, 1) := by decide +kernel
theorem dL_782 : decode code 782 = .ok (.invokevirtual 85, 3) := by decide +kernel
theorem dL_785 : decode code 785 = .ok (.if_icmp .eq 521, 3) := by decide +kernel
theorem dL_790 : decode code 790 = .ok (.aload_n 1, 1) := by decide +kernel
theorem dL_801 : decode code 801 = .ok (.invokevirtual 86, 3) := by decide +kernel
theorem dL_804 : decode code 804 = .ok (.aload_n 2, 1) := by decide +kernel
theorem dL_815 : decode code 815 = .ok (.invokevirtual 89, 3) := by decide +kernel
theorem dL_818 : decode code 818 = .ok (.if_icmp .eq 488, 3) := by decide +kernel
theorem dL_823 : decode code 823 = .ok (.aload_n 1, 1) := by decide +kernel
theorem dL_829 : decode code 829 = .ok (.invokevirtual 90, 3) := by decide +kernel
theorem dL_832 : decode code 832 = .ok (.aload_n 2, 1) := by decide +kernel
theorem dL_838 : decode code 838 = .ok (.invokevirtual 93, 3) := by decide +kernel
theorem dL_841 : decode code 841 = .ok (.if_icmp .eq 465, 3) := by decide +kernel
theorem dL_846 : decode code 846 = .ok (.aload_n 1, 1) := by decide +kernel
theorem dL_857 : decode code 857 = .ok (.invokevirtual 94, 3) := by decide +kernel
theorem dL_860 : decode code 860 = .ok (.aload_n 2, 1) := by decide +kernel
theorem dL_871 : decode code 871 = .ok (.invokevirtual 97, 3) := by decide +kernel
theorem dL_874 : decode code 874 = .ok (.if_icmp .eq 432, 3) := by decide +kernel
theorem dL_879 : decode code 879 = .ok (.aload_n 1, 1) := by decide +kernel
theorem dL_885 : decode code 885 = .ok (.invokevirtual 98, 3) := by decide +kernel
theorem dL_888 : decode code 888 = .ok (.aload_n 2, 1) := by decide +kernel
theorem dL_894 : decode code 894 = .ok (.invokevirtual 101, 3) := by decide +kernel
theorem dL_897 : decode code 897 = .ok (.if_icmp .eq 409, 3) := by decide +kernel
theorem dL_902 : decode code 902 = .ok (.aload_n 1, 1) := by decide +kernel
theorem dL_913 : decode code 913 = .ok (.invokevirtual 102, 3) := by decide +kernel
theorem dL_916 : decode code 916 = .ok (.aload_n 2, 1) := by decide +kernel
theorem dL_927 : decode code 927 = .ok (.invokevirtual 105, 3) := by decide +kernel
theorem dL_930 : decode code 930 = .ok (.if_icmp .eq 376, 3) := by decide +kernel
theorem dL_935 : decode code 935 = .ok (.aload_n 1, 1) := by decide +kernel
theorem dL_946 : decode code 946 = .ok (.invokevirtual 106, 3) := by decide +kernel
theorem dL_949 : decode code 949 = .ok (.aload_n 2, 1) := by decide +kernel
theorem dL_960 : decode code 960 = .ok (.invokevirtual 110, 3) := by decide +kernel
theorem dL_963 : decode code 963 = .ok (.lcmp, 1) := by decide +kernel
theorem dL_964 : decode code 964 = .ok (.ifCond .eq 342, 3) := by decide +kernel
theorem dL_969 : decode code 969 = .ok (.aload_n 1, 1) := by decide +kernel
theorem dL_975 : decode code 975 = .ok (.invokevirtual 111, 3) := by decide +kernel
theorem dL_978 : decode code 978 = .ok (.aload_n 2, 1) := by decide +kernel
theorem dL_984 : decode code 984 = .ok (.invokevirtual 115, 3) := by decide +kernel
theorem dL_987 : decode code 987 = .ok (.lcmp, 1) := by decide +kernel
theorem dL_988 : decode code 988 = .ok (.ifCond .eq 318, 3) := by decide +kernel
theorem dL_993 : decode code 993 = .ok (.aload_n 1, 1) := by decide +kernel
theorem dL_999 : decode code 999 = .ok (.invokevirtual 116, 3) := by decide +kernel
theorem dL_1002 : decode code 1002 = .ok (.aload_n 2, 1) := by decide +kernel
theorem dL_1008 : decode code 1008 = .ok (.invokevirtual 119, 3) := by decide +kernel
theorem dL_1011 : decode code 1011 = .ok (.lcmp, 1) := by decide +kernel
theorem dL_1012 : decode code 1012 = .ok (.ifCond .eq 294, 3) := by decide +kernel
theorem dL_1017 : decode code 1017 = .ok (.aload_n 1, 1) := by decide +kernel
theorem dL_1028 : decode code 1028 = .ok (.invokevirtual 120, 3) := by decide +kernel
theorem dL_1031 : decode code 1031 = .ok (.aload_n 2, 1) := by decide +kernel
theorem dL_1042 : decode code 1042 = .ok (.invokevirtual 123, 3) := by decide +kernel
theorem dL_1045 : decode code 1045 = .ok (.lcmp, 1) := by decide +kernel
theorem dL_1046 : decode code 1046 = .ok (.ifCond .eq 260, 3) := by decide +kernel
theorem dL_1051 : decode code 1051 = .ok (.aload_n 1, 1) := by decide +kernel
theorem dL_1077 : decode code 1077 = .ok (.invokevirtual 124, 3) := by decide +kernel
theorem dL_1080 : decode code 1080 = .ok (.aload_n 2, 1) := by decide +kernel
theorem dL_1106 : decode code 1106 = .ok (.invokevirtual 128, 3) := by decide +kernel
theorem dL_1109 : decode code 1109 = .ok (.lcmp, 1) := by decide +kernel
theorem dL_1110 : decode code 1110 = .ok (.ifCond .eq 196, 3) := by decide +kernel
theorem dL_1115 : decode code 1115 = .ok (.aload_n 1, 1) := by decide +kernel
theorem dL_1131 : decode code 1131 = .ok (.invokevirtual 129, 3) := by decide +kernel
theorem dL_1134 : decode code 1134 = .ok (.aload_n 2, 1) := by decide +kernel
theorem dL_1150 : decode code 1150 = .ok (.invokevirtual 132, 3) := by decide +kernel
theorem dL_1153 : decode code 1153 = .ok (.if_icmp .eq 153, 3) := by decide +kernel
theorem dL_1158 : decode code 1158 = .ok (.aload_n 1, 1) := by decide +kernel
theorem dL_1164 : decode code 1164 = .ok (.invokevirtual 133, 3) := by decide +kernel
theorem dL_1167 : decode code 1167 = .ok (.aload_n 2, 1) := by decide +kernel
theorem dL_1173 : decode code 1173 = .ok (.invokevirtual 136, 3) := by decide +kernel
theorem dL_1176 : decode code 1176 = .ok (.if_icmp .eq 130, 3) := by decide +kernel
theorem dL_1181 : decode code 1181 = .ok (.aload_n 1, 1) := by decide +kernel
theorem dL_1192 : decode code 1192 = .ok (.invokevirtual 137, 3) := by decide +kernel
theorem dL_1195 : decode code 1195 = .ok (.aload_n 2, 1) := by decide +kernel
theorem dL_1206 : decode code 1206 = .ok (.invokevirtual 140, 3) := by decide +kernel
theorem dL_1209 : decode code 1209 = .ok (.if_icmp .eq 97, 3) := by decide +kernel
theorem dL_1214 : decode code 1214 = .ok (.aload_n 1, 1) := by decide +kernel
theorem dL_1225 : decode code 1225 = .ok (.invokevirtual 141, 3) := by decide +kernel
theorem dL_1228 : decode code 1228 = .ok (.aload_n 2, 1) := by decide +kernel
theorem dL_1239 : decode code 1239 = .ok (.invokevirtual 144, 3) := by decide +kernel
theorem dL_1242 : decode code 1242 = .ok (.if_icmp .eq 64, 3) := by decide +kernel
theorem dL_1247 : decode code 1247 = .ok (.aload_n 1, 1) := by decide +kernel
theorem dL_1253 : decode code 1253 = .ok (.invokevirtual 145, 3) := by decide +kernel
theorem dL_1256 : decode code 1256 = .ok (.aload_n 2, 1) := by decide +kernel
theorem dL_1262 : decode code 1262 = .ok (.invokevirtual 148, 3) := by decide +kernel
theorem dL_1265 : decode code 1265 = .ok (.if_icmp .eq 41, 3) := by decide +kernel
theorem dL_1270 : decode code 1270 = .ok (.aload_n 1, 1) := by decide +kernel
theorem dL_1276 : decode code 1276 = .ok (.invokevirtual 149, 3) := by decide +kernel
theorem dL_1279 : decode code 1279 = .ok (.aload_n 2, 1) := by decide +kernel
theorem dL_1285 : decode code 1285 = .ok (.invokevirtual 152, 3) := by decide +kernel
theorem dL_1288 : decode code 1288 = .ok (.if_icmp .eq 18, 3) := by decide +kernel
theorem dL_1293 : decode code 1293 = .ok (.aload_n 1, 1) := by decide +kernel
theorem dL_1294 : decode code 1294 = .ok (.invokevirtual 153, 3) := by decide +kernel
theorem dL_1297 : decode code 1297 = .ok (.aload_n 2, 1) := by decide +kernel
theorem dL_1298 : decode code 1298 = .ok (.invokevirtual 156, 3) := by decide +kernel
theorem dL_1301 : decode code 1301 = .ok (.if_icmp .eq 5, 3) := by decide +kernel
theorem dL_1306 : decode code 1306 = .ok (.iinc 3 7, 3) := by decide +kernel
theorem dL_1309 : decode code 1309 = .ok (.goto (-1291), 3) := by decide +kernel
theorem dL_1312 : decode code 1312 = .ok (.iconst 1, 1) := by decide +kernel
theorem dL_1313 : decode code 1313 = .ok (.ireturn, 1) := by decide +kernel
