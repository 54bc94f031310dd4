section
-- ===== PART A: goes FIRST, ahead of the names: the tables' words, and 'selects' of the private methods out of them =====
/-- a private method of a class that the tables say can be made, by its rows of tables_1 -/
def lw_okq (q : MethodName × Nat) : Prop := (q.1.cls ≠ "java/lang/invoke/MethodHandle" ∧ q.1.cls ≠ "java/lang/invoke/VarHandle") ∧ Cond.instantiable q.1.cls q.2 ∈ tables_1 ∧ Cond.privateMethod q.1 ∈ tables_1 ∧ Cond.instanceMethod q.1 ∈ tables_1
theorem lw_p0 : lw_okq (⟨"OddPayments", "found", "(I)I"⟩, 11) := ⟨⟨by decide +kernel, by decide +kernel⟩, List.mem_of_getElem? (i := 23) (by decide +kernel), List.mem_of_getElem? (i := 401) (by decide +kernel), List.mem_of_getElem? (i := 402) (by decide +kernel)⟩
theorem lw_p1 : lw_okq (⟨"OddPayments", "unhurt", "(I)I"⟩, 11) := ⟨⟨by decide +kernel, by decide +kernel⟩, List.mem_of_getElem? (i := 23) (by decide +kernel), List.mem_of_getElem? (i := 411) (by decide +kernel), List.mem_of_getElem? (i := 412) (by decide +kernel)⟩
theorem lw_p2 : lw_okq (⟨"OddPayments", "admit", "(IIIIII)I"⟩, 11) := ⟨⟨by decide +kernel, by decide +kernel⟩, List.mem_of_getElem? (i := 23) (by decide +kernel), List.mem_of_getElem? (i := 443) (by decide +kernel), List.mem_of_getElem? (i := 444) (by decide +kernel)⟩
theorem lw_p3 : lw_okq (⟨"OddPayments", "admitFrom", "([II)I"⟩, 11) := ⟨⟨by decide +kernel, by decide +kernel⟩, List.mem_of_getElem? (i := 23) (by decide +kernel), List.mem_of_getElem? (i := 529) (by decide +kernel), List.mem_of_getElem? (i := 530) (by decide +kernel)⟩
theorem lw_p4 : lw_okq (⟨"OddPayments$Row", "begin", "(LOddPayments$Payment;LOddPayments$RuleBook;)V"⟩, 7) := ⟨⟨by decide +kernel, by decide +kernel⟩, List.mem_of_getElem? (i := 168) (by decide +kernel), List.mem_of_getElem? (i := 570) (by decide +kernel), List.mem_of_getElem? (i := 571) (by decide +kernel)⟩
theorem lw_p5 : lw_okq (⟨"OddPayments$Row", "add", "(LOddPayments$Payment;LOddPayments$Payment;)V"⟩, 7) := ⟨⟨by decide +kernel, by decide +kernel⟩, List.mem_of_getElem? (i := 168) (by decide +kernel), List.mem_of_getElem? (i := 576) (by decide +kernel), List.mem_of_getElem? (i := 577) (by decide +kernel)⟩
theorem lw_p6 : lw_okq (⟨"OddPayments$Row", "fade", "(II)I"⟩, 7) := ⟨⟨by decide +kernel, by decide +kernel⟩, List.mem_of_getElem? (i := 168) (by decide +kernel), List.mem_of_getElem? (i := 580) (by decide +kernel), List.mem_of_getElem? (i := 581) (by decide +kernel)⟩
theorem lw_p7 : lw_okq (⟨"OddPayments$Row", "far", "(II)I"⟩, 7) := ⟨⟨by decide +kernel, by decide +kernel⟩, List.mem_of_getElem? (i := 168) (by decide +kernel), List.mem_of_getElem? (i := 590) (by decide +kernel), List.mem_of_getElem? (i := 591) (by decide +kernel)⟩
theorem lw_p8 : lw_okq (⟨"OddPayments$Row", "linkedTo", "(I)I"⟩, 7) := ⟨⟨by decide +kernel, by decide +kernel⟩, List.mem_of_getElem? (i := 168) (by decide +kernel), List.mem_of_getElem? (i := 594) (by decide +kernel), List.mem_of_getElem? (i := 595) (by decide +kernel)⟩
theorem lw_p9 : lw_okq (⟨"OddPayments$Tape", "endOf", "(I)I"⟩, 6) := ⟨⟨by decide +kernel, by decide +kernel⟩, List.mem_of_getElem? (i := 61) (by decide +kernel), List.mem_of_getElem? (i := 626) (by decide +kernel), List.mem_of_getElem? (i := 627) (by decide +kernel)⟩
theorem lw_p10 : lw_okq (⟨"OddPayments$Tape", "takeToken", "(II)V"⟩, 6) := ⟨⟨by decide +kernel, by decide +kernel⟩, List.mem_of_getElem? (i := 61) (by decide +kernel), List.mem_of_getElem? (i := 639) (by decide +kernel), List.mem_of_getElem? (i := 640) (by decide +kernel)⟩
theorem lw_p11 : lw_okq (⟨"OddPayments$Tape", "keep", "(III)V"⟩, 6) := ⟨⟨by decide +kernel, by decide +kernel⟩, List.mem_of_getElem? (i := 61) (by decide +kernel), List.mem_of_getElem? (i := 643) (by decide +kernel), List.mem_of_getElem? (i := 644) (by decide +kernel)⟩
theorem lw_p12 : lw_okq (⟨"OddPayments$Tape", "wordAt", "(II)I"⟩, 6) := ⟨⟨by decide +kernel, by decide +kernel⟩, List.mem_of_getElem? (i := 61) (by decide +kernel), List.mem_of_getElem? (i := 647) (by decide +kernel), List.mem_of_getElem? (i := 648) (by decide +kernel)⟩
theorem lw_p13 : lw_okq (⟨"OddPayments$Tape", "isSpelt", "(III)Z"⟩, 6) := ⟨⟨by decide +kernel, by decide +kernel⟩, List.mem_of_getElem? (i := 61) (by decide +kernel), List.mem_of_getElem? (i := 651) (by decide +kernel), List.mem_of_getElem? (i := 652) (by decide +kernel)⟩
theorem lw_p14 : lw_okq (⟨"OddPayments$Tape", "numberAt", "(II)I"⟩, 6) := ⟨⟨by decide +kernel, by decide +kernel⟩, List.mem_of_getElem? (i := 61) (by decide +kernel), List.mem_of_getElem? (i := 704) (by decide +kernel), List.mem_of_getElem? (i := 705) (by decide +kernel)⟩
theorem lw_p15 : lw_okq (⟨"OddPayments$Reader", "goTo", "(I)V"⟩, 7) := ⟨⟨by decide +kernel, by decide +kernel⟩, List.mem_of_getElem? (i := 92) (by decide +kernel), List.mem_of_getElem? (i := 709) (by decide +kernel), List.mem_of_getElem? (i := 710) (by decide +kernel)⟩
def lw_privs_1 : List (MethodName × Nat) := [(⟨"OddPayments", "found", "(I)I"⟩, 11), (⟨"OddPayments", "unhurt", "(I)I"⟩, 11), (⟨"OddPayments", "admit", "(IIIIII)I"⟩, 11), (⟨"OddPayments", "admitFrom", "([II)I"⟩, 11), (⟨"OddPayments$Row", "begin", "(LOddPayments$Payment;LOddPayments$RuleBook;)V"⟩, 7), (⟨"OddPayments$Row", "add", "(LOddPayments$Payment;LOddPayments$Payment;)V"⟩, 7), (⟨"OddPayments$Row", "fade", "(II)I"⟩, 7), (⟨"OddPayments$Row", "far", "(II)I"⟩, 7), (⟨"OddPayments$Row", "linkedTo", "(I)I"⟩, 7), (⟨"OddPayments$Tape", "endOf", "(I)I"⟩, 6), (⟨"OddPayments$Tape", "takeToken", "(II)V"⟩, 6), (⟨"OddPayments$Tape", "keep", "(III)V"⟩, 6), (⟨"OddPayments$Tape", "wordAt", "(II)I"⟩, 6), (⟨"OddPayments$Tape", "isSpelt", "(III)Z"⟩, 6), (⟨"OddPayments$Tape", "numberAt", "(II)I"⟩, 6), (⟨"OddPayments$Reader", "goTo", "(I)V"⟩, 7)]
theorem lw_r1 : ∀ q ∈ lw_privs_1, lw_okq q := List.forall_mem_cons.mpr ⟨lw_p0, List.forall_mem_cons.mpr ⟨lw_p1, List.forall_mem_cons.mpr ⟨lw_p2, List.forall_mem_cons.mpr ⟨lw_p3, List.forall_mem_cons.mpr ⟨lw_p4, List.forall_mem_cons.mpr ⟨lw_p5, List.forall_mem_cons.mpr ⟨lw_p6, List.forall_mem_cons.mpr ⟨lw_p7, List.forall_mem_cons.mpr ⟨lw_p8, List.forall_mem_cons.mpr ⟨lw_p9, List.forall_mem_cons.mpr ⟨lw_p10, List.forall_mem_cons.mpr ⟨lw_p11, List.forall_mem_cons.mpr ⟨lw_p12, List.forall_mem_cons.mpr ⟨lw_p13, List.forall_mem_cons.mpr ⟨lw_p14, List.forall_mem_cons.mpr ⟨lw_p15, fun _ h => absurd h List.not_mem_nil⟩⟩⟩⟩⟩⟩⟩⟩⟩⟩⟩⟩⟩⟩⟩⟩
theorem lw_p16 : lw_okq (⟨"OddPayments$Reader", "readStatement", "()Z"⟩, 7) := ⟨⟨by decide +kernel, by decide +kernel⟩, List.mem_of_getElem? (i := 92) (by decide +kernel), List.mem_of_getElem? (i := 713) (by decide +kernel), List.mem_of_getElem? (i := 714) (by decide +kernel)⟩
theorem lw_p17 : lw_okq (⟨"OddPayments$Reader", "readLimit", "(I)Z"⟩, 7) := ⟨⟨by decide +kernel, by decide +kernel⟩, List.mem_of_getElem? (i := 92) (by decide +kernel), List.mem_of_getElem? (i := 718) (by decide +kernel), List.mem_of_getElem? (i := 719) (by decide +kernel)⟩
theorem lw_p18 : lw_okq (⟨"OddPayments$Reader", "goOn", "()V"⟩, 7) := ⟨⟨by decide +kernel, by decide +kernel⟩, List.mem_of_getElem? (i := 92) (by decide +kernel), List.mem_of_getElem? (i := 722) (by decide +kernel), List.mem_of_getElem? (i := 723) (by decide +kernel)⟩
theorem lw_p19 : lw_okq (⟨"OddPayments$Reader", "hasNumber", "(II)Z"⟩, 7) := ⟨⟨by decide +kernel, by decide +kernel⟩, List.mem_of_getElem? (i := 92) (by decide +kernel), List.mem_of_getElem? (i := 727) (by decide +kernel), List.mem_of_getElem? (i := 728) (by decide +kernel)⟩
theorem lw_p20 : lw_okq (⟨"OddPayments$Reader", "fail", "(I)Z"⟩, 7) := ⟨⟨by decide +kernel, by decide +kernel⟩, List.mem_of_getElem? (i := 92) (by decide +kernel), List.mem_of_getElem? (i := 731) (by decide +kernel), List.mem_of_getElem? (i := 732) (by decide +kernel)⟩
theorem lw_p21 : lw_okq (⟨"OddPayments$Reader", "passEnd", "()Z"⟩, 7) := ⟨⟨by decide +kernel, by decide +kernel⟩, List.mem_of_getElem? (i := 92) (by decide +kernel), List.mem_of_getElem? (i := 735) (by decide +kernel), List.mem_of_getElem? (i := 736) (by decide +kernel)⟩
theorem lw_p22 : lw_okq (⟨"OddPayments$Reader", "isWord", "(I)Z"⟩, 7) := ⟨⟨by decide +kernel, by decide +kernel⟩, List.mem_of_getElem? (i := 92) (by decide +kernel), List.mem_of_getElem? (i := 739) (by decide +kernel), List.mem_of_getElem? (i := 740) (by decide +kernel)⟩
theorem lw_p23 : lw_okq (⟨"OddPayments$Reader", "readRule", "()Z"⟩, 7) := ⟨⟨by decide +kernel, by decide +kernel⟩, List.mem_of_getElem? (i := 92) (by decide +kernel), List.mem_of_getElem? (i := 743) (by decide +kernel), List.mem_of_getElem? (i := 744) (by decide +kernel)⟩
theorem lw_p24 : lw_okq (⟨"OddPayments$Reader", "readTest", "()Z"⟩, 7) := ⟨⟨by decide +kernel, by decide +kernel⟩, List.mem_of_getElem? (i := 92) (by decide +kernel), List.mem_of_getElem? (i := 751) (by decide +kernel), List.mem_of_getElem? (i := 752) (by decide +kernel)⟩
theorem lw_p25 : lw_okq (⟨"OddPayments$Judge", "slotOf", "(LOddPayments$Payment;I)I"⟩, 8) := ⟨⟨by decide +kernel, by decide +kernel⟩, List.mem_of_getElem? (i := 122) (by decide +kernel), List.mem_of_getElem? (i := 781) (by decide +kernel), List.mem_of_getElem? (i := 782) (by decide +kernel)⟩
theorem lw_p26 : lw_okq (⟨"OddPayments$RuleBook", "holds", "(I[I)Z"⟩, 7) := ⟨⟨by decide +kernel, by decide +kernel⟩, List.mem_of_getElem? (i := 128) (by decide +kernel), List.mem_of_getElem? (i := 790) (by decide +kernel), List.mem_of_getElem? (i := 791) (by decide +kernel)⟩
theorem lw_p27 : lw_okq (⟨"OddPayments$RuleBook", "fewestThatReach", "(II)I"⟩, 7) := ⟨⟨by decide +kernel, by decide +kernel⟩, List.mem_of_getElem? (i := 128) (by decide +kernel), List.mem_of_getElem? (i := 821) (by decide +kernel), List.mem_of_getElem? (i := 822) (by decide +kernel)⟩
theorem lw_p28 : lw_okq (⟨"OddPayments$RuleBook", "heaviest", "(II)I"⟩, 7) := ⟨⟨by decide +kernel, by decide +kernel⟩, List.mem_of_getElem? (i := 128) (by decide +kernel), List.mem_of_getElem? (i := 825) (by decide +kernel), List.mem_of_getElem? (i := 826) (by decide +kernel)⟩
theorem lw_p29 : lw_okq (⟨"OddPayments$Judge", "queueIn", "(LOddPayments$Payment;J)V"⟩, 8) := ⟨⟨by decide +kernel, by decide +kernel⟩, List.mem_of_getElem? (i := 122) (by decide +kernel), List.mem_of_getElem? (i := 866) (by decide +kernel), List.mem_of_getElem? (i := 867) (by decide +kernel)⟩
theorem lw_p30 : lw_okq (⟨"OddPayments$Pricer", "rate", "()V"⟩, 13) := ⟨⟨by decide +kernel, by decide +kernel⟩, List.mem_of_getElem? (i := 236) (by decide +kernel), List.mem_of_getElem? (i := 883) (by decide +kernel), List.mem_of_getElem? (i := 884) (by decide +kernel)⟩
theorem lw_p31 : lw_okq (⟨"OddPayments$Pricer", "lookPart", "(I)J"⟩, 13) := ⟨⟨by decide +kernel, by decide +kernel⟩, List.mem_of_getElem? (i := 236) (by decide +kernel), List.mem_of_getElem? (i := 890) (by decide +kernel), List.mem_of_getElem? (i := 891) (by decide +kernel)⟩
def lw_privs_2 : List (MethodName × Nat) := [(⟨"OddPayments$Reader", "readStatement", "()Z"⟩, 7), (⟨"OddPayments$Reader", "readLimit", "(I)Z"⟩, 7), (⟨"OddPayments$Reader", "goOn", "()V"⟩, 7), (⟨"OddPayments$Reader", "hasNumber", "(II)Z"⟩, 7), (⟨"OddPayments$Reader", "fail", "(I)Z"⟩, 7), (⟨"OddPayments$Reader", "passEnd", "()Z"⟩, 7), (⟨"OddPayments$Reader", "isWord", "(I)Z"⟩, 7), (⟨"OddPayments$Reader", "readRule", "()Z"⟩, 7), (⟨"OddPayments$Reader", "readTest", "()Z"⟩, 7), (⟨"OddPayments$Judge", "slotOf", "(LOddPayments$Payment;I)I"⟩, 8), (⟨"OddPayments$RuleBook", "holds", "(I[I)Z"⟩, 7), (⟨"OddPayments$RuleBook", "fewestThatReach", "(II)I"⟩, 7), (⟨"OddPayments$RuleBook", "heaviest", "(II)I"⟩, 7), (⟨"OddPayments$Judge", "queueIn", "(LOddPayments$Payment;J)V"⟩, 8), (⟨"OddPayments$Pricer", "rate", "()V"⟩, 13), (⟨"OddPayments$Pricer", "lookPart", "(I)J"⟩, 13)]
theorem lw_r2 : ∀ q ∈ lw_privs_2, lw_okq q := List.forall_mem_cons.mpr ⟨lw_p16, List.forall_mem_cons.mpr ⟨lw_p17, List.forall_mem_cons.mpr ⟨lw_p18, List.forall_mem_cons.mpr ⟨lw_p19, List.forall_mem_cons.mpr ⟨lw_p20, List.forall_mem_cons.mpr ⟨lw_p21, List.forall_mem_cons.mpr ⟨lw_p22, List.forall_mem_cons.mpr ⟨lw_p23, List.forall_mem_cons.mpr ⟨lw_p24, List.forall_mem_cons.mpr ⟨lw_p25, List.forall_mem_cons.mpr ⟨lw_p26, List.forall_mem_cons.mpr ⟨lw_p27, List.forall_mem_cons.mpr ⟨lw_p28, List.forall_mem_cons.mpr ⟨lw_p29, List.forall_mem_cons.mpr ⟨lw_p30, List.forall_mem_cons.mpr ⟨lw_p31, fun _ h => absurd h List.not_mem_nil⟩⟩⟩⟩⟩⟩⟩⟩⟩⟩⟩⟩⟩⟩⟩⟩
theorem lw_p32 : lw_okq (⟨"OddPayments$Pricer", "blockPart", "(I)J"⟩, 13) := ⟨⟨by decide +kernel, by decide +kernel⟩, List.mem_of_getElem? (i := 236) (by decide +kernel), List.mem_of_getElem? (i := 894) (by decide +kernel), List.mem_of_getElem? (i := 895) (by decide +kernel)⟩
theorem lw_p33 : lw_okq (⟨"OddPayments$Pricer", "findThresholds", "()V"⟩, 13) := ⟨⟨by decide +kernel, by decide +kernel⟩, List.mem_of_getElem? (i := 236) (by decide +kernel), List.mem_of_getElem? (i := 906) (by decide +kernel), List.mem_of_getElem? (i := 907) (by decide +kernel)⟩
theorem lw_p34 : lw_okq (⟨"OddPayments$Pricer", "addThreshold", "(I)V"⟩, 13) := ⟨⟨by decide +kernel, by decide +kernel⟩, List.mem_of_getElem? (i := 236) (by decide +kernel), List.mem_of_getElem? (i := 910) (by decide +kernel), List.mem_of_getElem? (i := 911) (by decide +kernel)⟩
theorem lw_p35 : lw_okq (⟨"OddPayments$Pricer", "sumUp", "()V"⟩, 13) := ⟨⟨by decide +kernel, by decide +kernel⟩, List.mem_of_getElem? (i := 236) (by decide +kernel), List.mem_of_getElem? (i := 924) (by decide +kernel), List.mem_of_getElem? (i := 925) (by decide +kernel)⟩
theorem lw_p36 : lw_okq (⟨"OddPayments$Drift", "waysAsFar", "()J"⟩, 4) := ⟨⟨by decide +kernel, by decide +kernel⟩, List.mem_of_getElem? (i := 287) (by decide +kernel), List.mem_of_getElem? (i := 962) (by decide +kernel), List.mem_of_getElem? (i := 963) (by decide +kernel)⟩
theorem lw_p37 : lw_okq (⟨"OddPayments$Drift", "apart", "(II)I"⟩, 4) := ⟨⟨by decide +kernel, by decide +kernel⟩, List.mem_of_getElem? (i := 287) (by decide +kernel), List.mem_of_getElem? (i := 966) (by decide +kernel), List.mem_of_getElem? (i := 967) (by decide +kernel)⟩
theorem lw_p38 : lw_okq (⟨"OddPayments$Asker", "body", "(II)I"⟩, 5) := ⟨⟨by decide +kernel, by decide +kernel⟩, List.mem_of_getElem? (i := 308) (by decide +kernel), List.mem_of_getElem? (i := 1004) (by decide +kernel), List.mem_of_getElem? (i := 1005) (by decide +kernel)⟩
theorem lw_p39 : lw_okq (⟨"OddPayments", "sheetsThere", "()I"⟩, 11) := ⟨⟨by decide +kernel, by decide +kernel⟩, List.mem_of_getElem? (i := 23) (by decide +kernel), List.mem_of_getElem? (i := 1016) (by decide +kernel), List.mem_of_getElem? (i := 1017) (by decide +kernel)⟩
theorem lw_p40 : lw_okq (⟨"OddPaymentsModel", "found", "(I)I"⟩, 47) := ⟨⟨by decide +kernel, by decide +kernel⟩, List.mem_of_getElem? (i := 1029) (by decide +kernel), List.mem_of_getElem? (i := 1190) (by decide +kernel), List.mem_of_getElem? (i := 1191) (by decide +kernel)⟩
theorem lw_p41 : lw_okq (⟨"OddPaymentsModel", "coming", "(IIIIII)I"⟩, 47) := ⟨⟨by decide +kernel, by decide +kernel⟩, List.mem_of_getElem? (i := 1029) (by decide +kernel), List.mem_of_getElem? (i := 1211) (by decide +kernel), List.mem_of_getElem? (i := 1212) (by decide +kernel)⟩
theorem lw_p42 : lw_okq (⟨"OddPaymentsModel", "numberOf", "(I)I"⟩, 47) := ⟨⟨by decide +kernel, by decide +kernel⟩, List.mem_of_getElem? (i := 1029) (by decide +kernel), List.mem_of_getElem? (i := 1219) (by decide +kernel), List.mem_of_getElem? (i := 1220) (by decide +kernel)⟩
theorem lw_p43 : lw_okq (⟨"OddPaymentsModel", "isBefore", "(II)Z"⟩, 47) := ⟨⟨by decide +kernel, by decide +kernel⟩, List.mem_of_getElem? (i := 1029) (by decide +kernel), List.mem_of_getElem? (i := 1226) (by decide +kernel), List.mem_of_getElem? (i := 1227) (by decide +kernel)⟩
theorem lw_p44 : lw_okq (⟨"OddPaymentsModel", "features", "(III)V"⟩, 47) := ⟨⟨by decide +kernel, by decide +kernel⟩, List.mem_of_getElem? (i := 1029) (by decide +kernel), List.mem_of_getElem? (i := 1253) (by decide +kernel), List.mem_of_getElem? (i := 1254) (by decide +kernel)⟩
theorem lw_p45 : lw_okq (⟨"OddPaymentsModel", "isAhead", "(III)Z"⟩, 47) := ⟨⟨by decide +kernel, by decide +kernel⟩, List.mem_of_getElem? (i := 1029) (by decide +kernel), List.mem_of_getElem? (i := 1257) (by decide +kernel), List.mem_of_getElem? (i := 1258) (by decide +kernel)⟩
theorem lw_p46 : lw_okq (⟨"OddPaymentsModel", "profileOf", "(II)I"⟩, 47) := ⟨⟨by decide +kernel, by decide +kernel⟩, List.mem_of_getElem? (i := 1029) (by decide +kernel), List.mem_of_getElem? (i := 1264) (by decide +kernel), List.mem_of_getElem? (i := 1265) (by decide +kernel)⟩
theorem lw_p47 : lw_okq (⟨"OddPaymentsModel", "faded", "(II)I"⟩, 47) := ⟨⟨by decide +kernel, by decide +kernel⟩, List.mem_of_getElem? (i := 1029) (by decide +kernel), List.mem_of_getElem? (i := 1268) (by decide +kernel), List.mem_of_getElem? (i := 1269) (by decide +kernel)⟩
def lw_privs_3 : List (MethodName × Nat) := [(⟨"OddPayments$Pricer", "blockPart", "(I)J"⟩, 13), (⟨"OddPayments$Pricer", "findThresholds", "()V"⟩, 13), (⟨"OddPayments$Pricer", "addThreshold", "(I)V"⟩, 13), (⟨"OddPayments$Pricer", "sumUp", "()V"⟩, 13), (⟨"OddPayments$Drift", "waysAsFar", "()J"⟩, 4), (⟨"OddPayments$Drift", "apart", "(II)I"⟩, 4), (⟨"OddPayments$Asker", "body", "(II)I"⟩, 5), (⟨"OddPayments", "sheetsThere", "()I"⟩, 11), (⟨"OddPaymentsModel", "found", "(I)I"⟩, 47), (⟨"OddPaymentsModel", "coming", "(IIIIII)I"⟩, 47), (⟨"OddPaymentsModel", "numberOf", "(I)I"⟩, 47), (⟨"OddPaymentsModel", "isBefore", "(II)Z"⟩, 47), (⟨"OddPaymentsModel", "features", "(III)V"⟩, 47), (⟨"OddPaymentsModel", "isAhead", "(III)Z"⟩, 47), (⟨"OddPaymentsModel", "profileOf", "(II)I"⟩, 47), (⟨"OddPaymentsModel", "faded", "(II)I"⟩, 47)]
theorem lw_r3 : ∀ q ∈ lw_privs_3, lw_okq q := List.forall_mem_cons.mpr ⟨lw_p32, List.forall_mem_cons.mpr ⟨lw_p33, List.forall_mem_cons.mpr ⟨lw_p34, List.forall_mem_cons.mpr ⟨lw_p35, List.forall_mem_cons.mpr ⟨lw_p36, List.forall_mem_cons.mpr ⟨lw_p37, List.forall_mem_cons.mpr ⟨lw_p38, List.forall_mem_cons.mpr ⟨lw_p39, List.forall_mem_cons.mpr ⟨lw_p40, List.forall_mem_cons.mpr ⟨lw_p41, List.forall_mem_cons.mpr ⟨lw_p42, List.forall_mem_cons.mpr ⟨lw_p43, List.forall_mem_cons.mpr ⟨lw_p44, List.forall_mem_cons.mpr ⟨lw_p45, List.forall_mem_cons.mpr ⟨lw_p46, List.forall_mem_cons.mpr ⟨lw_p47, fun _ h => absurd h List.not_mem_nil⟩⟩⟩⟩⟩⟩⟩⟩⟩⟩⟩⟩⟩⟩⟩⟩
theorem lw_p48 : lw_okq (⟨"OddPaymentsModel", "farOf", "(II)I"⟩, 47) := ⟨⟨by decide +kernel, by decide +kernel⟩, List.mem_of_getElem? (i := 1029) (by decide +kernel), List.mem_of_getElem? (i := 1272) (by decide +kernel), List.mem_of_getElem? (i := 1273) (by decide +kernel)⟩
theorem lw_p49 : lw_okq (⟨"OddPaymentsModel", "step", "()V"⟩, 47) := ⟨⟨by decide +kernel, by decide +kernel⟩, List.mem_of_getElem? (i := 1029) (by decide +kernel), List.mem_of_getElem? (i := 1290) (by decide +kernel), List.mem_of_getElem? (i := 1291) (by decide +kernel)⟩
theorem lw_p50 : lw_okq (⟨"OddPaymentsModel", "byteAt", "(I)I"⟩, 47) := ⟨⟨by decide +kernel, by decide +kernel⟩, List.mem_of_getElem? (i := 1029) (by decide +kernel), List.mem_of_getElem? (i := 1294) (by decide +kernel), List.mem_of_getElem? (i := 1295) (by decide +kernel)⟩
theorem lw_p51 : lw_okq (⟨"OddPaymentsModel", "readLine", "()V"⟩, 47) := ⟨⟨by decide +kernel, by decide +kernel⟩, List.mem_of_getElem? (i := 1029) (by decide +kernel), List.mem_of_getElem? (i := 1304) (by decide +kernel), List.mem_of_getElem? (i := 1305) (by decide +kernel)⟩
theorem lw_p52 : lw_okq (⟨"OddPaymentsModel", "word", "()J"⟩, 47) := ⟨⟨by decide +kernel, by decide +kernel⟩, List.mem_of_getElem? (i := 1029) (by decide +kernel), List.mem_of_getElem? (i := 1308) (by decide +kernel), List.mem_of_getElem? (i := 1309) (by decide +kernel)⟩
theorem lw_p53 : lw_okq (⟨"OddPaymentsModel", "bad", "(I)V"⟩, 47) := ⟨⟨by decide +kernel, by decide +kernel⟩, List.mem_of_getElem? (i := 1029) (by decide +kernel), List.mem_of_getElem? (i := 1313) (by decide +kernel), List.mem_of_getElem? (i := 1314) (by decide +kernel)⟩
theorem lw_p54 : lw_okq (⟨"OddPaymentsModel", "need", "(Z)V"⟩, 47) := ⟨⟨by decide +kernel, by decide +kernel⟩, List.mem_of_getElem? (i := 1029) (by decide +kernel), List.mem_of_getElem? (i := 1321) (by decide +kernel), List.mem_of_getElem? (i := 1322) (by decide +kernel)⟩
theorem lw_p55 : lw_okq (⟨"OddPaymentsModel", "numberIn", "(II)I"⟩, 47) := ⟨⟨by decide +kernel, by decide +kernel⟩, List.mem_of_getElem? (i := 1029) (by decide +kernel), List.mem_of_getElem? (i := 1326) (by decide +kernel), List.mem_of_getElem? (i := 1327) (by decide +kernel)⟩
theorem lw_p56 : lw_okq (⟨"OddPaymentsModel", "readTest", "(I)V"⟩, 47) := ⟨⟨by decide +kernel, by decide +kernel⟩, List.mem_of_getElem? (i := 1029) (by decide +kernel), List.mem_of_getElem? (i := 1331) (by decide +kernel), List.mem_of_getElem? (i := 1332) (by decide +kernel)⟩
theorem lw_p57 : lw_okq (⟨"OddPaymentsModel", "featureOfWord", "()I"⟩, 47) := ⟨⟨by decide +kernel, by decide +kernel⟩, List.mem_of_getElem? (i := 1029) (by decide +kernel), List.mem_of_getElem? (i := 1335) (by decide +kernel), List.mem_of_getElem? (i := 1336) (by decide +kernel)⟩
theorem lw_p58 : lw_okq (⟨"OddPaymentsModel", "is", "(I)Z"⟩, 47) := ⟨⟨by decide +kernel, by decide +kernel⟩, List.mem_of_getElem? (i := 1029) (by decide +kernel), List.mem_of_getElem? (i := 1349) (by decide +kernel), List.mem_of_getElem? (i := 1350) (by decide +kernel)⟩
theorem lw_p59 : lw_okq (⟨"OddPaymentsModel", "setOf", "(III)I"⟩, 47) := ⟨⟨by decide +kernel, by decide +kernel⟩, List.mem_of_getElem? (i := 1029) (by decide +kernel), List.mem_of_getElem? (i := 1368) (by decide +kernel), List.mem_of_getElem? (i := 1369) (by decide +kernel)⟩
theorem lw_p60 : lw_okq (⟨"OddPaymentsModel", "holding", "()I"⟩, 47) := ⟨⟨by decide +kernel, by decide +kernel⟩, List.mem_of_getElem? (i := 1029) (by decide +kernel), List.mem_of_getElem? (i := 1372) (by decide +kernel), List.mem_of_getElem? (i := 1373) (by decide +kernel)⟩
theorem lw_p61 : lw_okq (⟨"OddPaymentsModel", "weightOf", "(I)I"⟩, 47) := ⟨⟨by decide +kernel, by decide +kernel⟩, List.mem_of_getElem? (i := 1029) (by decide +kernel), List.mem_of_getElem? (i := 1376) (by decide +kernel), List.mem_of_getElem? (i := 1377) (by decide +kernel)⟩
theorem lw_p62 : lw_okq (⟨"OddPaymentsModel", "actBy", "(I)I"⟩, 47) := ⟨⟨by decide +kernel, by decide +kernel⟩, List.mem_of_getElem? (i := 1029) (by decide +kernel), List.mem_of_getElem? (i := 1380) (by decide +kernel), List.mem_of_getElem? (i := 1381) (by decide +kernel)⟩
theorem lw_p63 : lw_okq (⟨"OddPaymentsModel", "whyOf", "(I)I"⟩, 47) := ⟨⟨by decide +kernel, by decide +kernel⟩, List.mem_of_getElem? (i := 1029) (by decide +kernel), List.mem_of_getElem? (i := 1384) (by decide +kernel), List.mem_of_getElem? (i := 1385) (by decide +kernel)⟩
def lw_privs_4 : List (MethodName × Nat) := [(⟨"OddPaymentsModel", "farOf", "(II)I"⟩, 47), (⟨"OddPaymentsModel", "step", "()V"⟩, 47), (⟨"OddPaymentsModel", "byteAt", "(I)I"⟩, 47), (⟨"OddPaymentsModel", "readLine", "()V"⟩, 47), (⟨"OddPaymentsModel", "word", "()J"⟩, 47), (⟨"OddPaymentsModel", "bad", "(I)V"⟩, 47), (⟨"OddPaymentsModel", "need", "(Z)V"⟩, 47), (⟨"OddPaymentsModel", "numberIn", "(II)I"⟩, 47), (⟨"OddPaymentsModel", "readTest", "(I)V"⟩, 47), (⟨"OddPaymentsModel", "featureOfWord", "()I"⟩, 47), (⟨"OddPaymentsModel", "is", "(I)Z"⟩, 47), (⟨"OddPaymentsModel", "setOf", "(III)I"⟩, 47), (⟨"OddPaymentsModel", "holding", "()I"⟩, 47), (⟨"OddPaymentsModel", "weightOf", "(I)I"⟩, 47), (⟨"OddPaymentsModel", "actBy", "(I)I"⟩, 47), (⟨"OddPaymentsModel", "whyOf", "(I)I"⟩, 47)]
theorem lw_r4 : ∀ q ∈ lw_privs_4, lw_okq q := List.forall_mem_cons.mpr ⟨lw_p48, List.forall_mem_cons.mpr ⟨lw_p49, List.forall_mem_cons.mpr ⟨lw_p50, List.forall_mem_cons.mpr ⟨lw_p51, List.forall_mem_cons.mpr ⟨lw_p52, List.forall_mem_cons.mpr ⟨lw_p53, List.forall_mem_cons.mpr ⟨lw_p54, List.forall_mem_cons.mpr ⟨lw_p55, List.forall_mem_cons.mpr ⟨lw_p56, List.forall_mem_cons.mpr ⟨lw_p57, List.forall_mem_cons.mpr ⟨lw_p58, List.forall_mem_cons.mpr ⟨lw_p59, List.forall_mem_cons.mpr ⟨lw_p60, List.forall_mem_cons.mpr ⟨lw_p61, List.forall_mem_cons.mpr ⟨lw_p62, List.forall_mem_cons.mpr ⟨lw_p63, fun _ h => absurd h List.not_mem_nil⟩⟩⟩⟩⟩⟩⟩⟩⟩⟩⟩⟩⟩⟩⟩⟩
theorem lw_p64 : lw_okq (⟨"OddPaymentsModel", "scoreOf", "(II)I"⟩, 47) := ⟨⟨by decide +kernel, by decide +kernel⟩, List.mem_of_getElem? (i := 1029) (by decide +kernel), List.mem_of_getElem? (i := 1396) (by decide +kernel), List.mem_of_getElem? (i := 1397) (by decide +kernel)⟩
theorem lw_p65 : lw_okq (⟨"OddPaymentsModel", "findQueue", "()V"⟩, 47) := ⟨⟨by decide +kernel, by decide +kernel⟩, List.mem_of_getElem? (i := 1029) (by decide +kernel), List.mem_of_getElem? (i := 1408) (by decide +kernel), List.mem_of_getElem? (i := 1409) (by decide +kernel)⟩
theorem lw_p66 : lw_okq (⟨"OddPaymentsModel", "findScores", "()V"⟩, 47) := ⟨⟨by decide +kernel, by decide +kernel⟩, List.mem_of_getElem? (i := 1029) (by decide +kernel), List.mem_of_getElem? (i := 1422) (by decide +kernel), List.mem_of_getElem? (i := 1423) (by decide +kernel)⟩
theorem lw_p67 : lw_okq (⟨"OddPaymentsModel", "costOf", "(II)J"⟩, 47) := ⟨⟨by decide +kernel, by decide +kernel⟩, List.mem_of_getElem? (i := 1029) (by decide +kernel), List.mem_of_getElem? (i := 1426) (by decide +kernel), List.mem_of_getElem? (i := 1427) (by decide +kernel)⟩
theorem lw_p68 : lw_okq (⟨"OddPaymentsModel", "findHolds", "()V"⟩, 47) := ⟨⟨by decide +kernel, by decide +kernel⟩, List.mem_of_getElem? (i := 1029) (by decide +kernel), List.mem_of_getElem? (i := 1438) (by decide +kernel), List.mem_of_getElem? (i := 1439) (by decide +kernel)⟩
theorem lw_p69 : lw_okq (⟨"OddPaymentsModel", "costOfSet", "(II)J"⟩, 47) := ⟨⟨by decide +kernel, by decide +kernel⟩, List.mem_of_getElem? (i := 1029) (by decide +kernel), List.mem_of_getElem? (i := 1442) (by decide +kernel), List.mem_of_getElem? (i := 1443) (by decide +kernel)⟩
theorem lw_p70 : lw_okq (⟨"OddPaymentsModel", "waysOf", "(II)J"⟩, 47) := ⟨⟨by decide +kernel, by decide +kernel⟩, List.mem_of_getElem? (i := 1029) (by decide +kernel), List.mem_of_getElem? (i := 1457) (by decide +kernel), List.mem_of_getElem? (i := 1458) (by decide +kernel)⟩
theorem lw_p71 : lw_okq (⟨"OddPaymentsModel", "kindOf", "(I)I"⟩, 47) := ⟨⟨by decide +kernel, by decide +kernel⟩, List.mem_of_getElem? (i := 1029) (by decide +kernel), List.mem_of_getElem? (i := 1469) (by decide +kernel), List.mem_of_getElem? (i := 1470) (by decide +kernel)⟩
theorem lw_p72 : lw_okq (⟨"OddPaymentsModel", "worthOf", "(II)I"⟩, 47) := ⟨⟨by decide +kernel, by decide +kernel⟩, List.mem_of_getElem? (i := 1029) (by decide +kernel), List.mem_of_getElem? (i := 1484) (by decide +kernel), List.mem_of_getElem? (i := 1485) (by decide +kernel)⟩
theorem lw_p73 : lw_okq (⟨"OddPaymentsModel", "heldWorth", "(II)I"⟩, 47) := ⟨⟨by decide +kernel, by decide +kernel⟩, List.mem_of_getElem? (i := 1029) (by decide +kernel), List.mem_of_getElem? (i := 1488) (by decide +kernel), List.mem_of_getElem? (i := 1489) (by decide +kernel)⟩
theorem lw_p74 : lw_okq (⟨"OddPaymentsModel", "began", "(I)V"⟩, 47) := ⟨⟨by decide +kernel, by decide +kernel⟩, List.mem_of_getElem? (i := 1029) (by decide +kernel), List.mem_of_getElem? (i := 1492) (by decide +kernel), List.mem_of_getElem? (i := 1493) (by decide +kernel)⟩
theorem lw_p75 : lw_okq (⟨"OddPaymentsModel", "markOf", "(II)I"⟩, 47) := ⟨⟨by decide +kernel, by decide +kernel⟩, List.mem_of_getElem? (i := 1029) (by decide +kernel), List.mem_of_getElem? (i := 1496) (by decide +kernel), List.mem_of_getElem? (i := 1497) (by decide +kernel)⟩
def lw_privs_5 : List (MethodName × Nat) := [(⟨"OddPaymentsModel", "scoreOf", "(II)I"⟩, 47), (⟨"OddPaymentsModel", "findQueue", "()V"⟩, 47), (⟨"OddPaymentsModel", "findScores", "()V"⟩, 47), (⟨"OddPaymentsModel", "costOf", "(II)J"⟩, 47), (⟨"OddPaymentsModel", "findHolds", "()V"⟩, 47), (⟨"OddPaymentsModel", "costOfSet", "(II)J"⟩, 47), (⟨"OddPaymentsModel", "waysOf", "(II)J"⟩, 47), (⟨"OddPaymentsModel", "kindOf", "(I)I"⟩, 47), (⟨"OddPaymentsModel", "worthOf", "(II)I"⟩, 47), (⟨"OddPaymentsModel", "heldWorth", "(II)I"⟩, 47), (⟨"OddPaymentsModel", "began", "(I)V"⟩, 47), (⟨"OddPaymentsModel", "markOf", "(II)I"⟩, 47)]
theorem lw_r5 : ∀ q ∈ lw_privs_5, lw_okq q := List.forall_mem_cons.mpr ⟨lw_p64, List.forall_mem_cons.mpr ⟨lw_p65, List.forall_mem_cons.mpr ⟨lw_p66, List.forall_mem_cons.mpr ⟨lw_p67, List.forall_mem_cons.mpr ⟨lw_p68, List.forall_mem_cons.mpr ⟨lw_p69, List.forall_mem_cons.mpr ⟨lw_p70, List.forall_mem_cons.mpr ⟨lw_p71, List.forall_mem_cons.mpr ⟨lw_p72, List.forall_mem_cons.mpr ⟨lw_p73, List.forall_mem_cons.mpr ⟨lw_p74, List.forall_mem_cons.mpr ⟨lw_p75, fun _ h => absurd h List.not_mem_nil⟩⟩⟩⟩⟩⟩⟩⟩⟩⟩⟩⟩
def lw_privs : List (MethodName × Nat) := lw_privs_1 ++ (lw_privs_2 ++ (lw_privs_3 ++ (lw_privs_4 ++ (lw_privs_5))))
def lw_tbl : List Cond := k2_sels lw_privs ++ tables_1
theorem lw_privs_ok : ∀ q ∈ lw_privs, lw_okq q := by
  show ∀ q ∈ lw_privs_1 ++ (lw_privs_2 ++ (lw_privs_3 ++ (lw_privs_4 ++ (lw_privs_5)))), lw_okq q
  exact List.forall_mem_append.mpr ⟨lw_r1, List.forall_mem_append.mpr ⟨lw_r2, List.forall_mem_append.mpr ⟨lw_r3, List.forall_mem_append.mpr ⟨lw_r4, lw_r5⟩⟩⟩⟩
end
section
/-! ===== BEGIN words of one list among another's, by their places ===== -/
theorem goodIn_r {big : List Cond} (ws : List Cond) (ps : List Nat) (hp : ws = ps.filterMap (fun i => big[i]?)) (h : ws.all goodWord = true) : GoodIn big ws := by
  intro w hw
  have h1 := List.all_eq_true.mp h w hw
  rw [hp] at hw
  obtain ⟨i, -, hi⟩ := List.mem_filterMap.mp hw
  have hm : w ∈ big := by first | exact List.mem_of_getElem? hi | exact List.getElem?_mem hi
  exact ⟨hm, good_of_word h1⟩
theorem goodIn_app {big a b : List Cond} (ha : GoodIn big a) (hb : GoodIn big b) : GoodIn big (a ++ b) := fun w h => (List.mem_append.mp h).elim (ha w) (hb w)
theorem goodIn_ca {big a b : List Cond} {c : Cond} (ha : GoodIn big (c :: a)) (hb : GoodIn big b) : GoodIn big (c :: (a ++ b)) := fun w h => (List.mem_cons.mp h).elim (fun e => ha w (List.mem_cons.mpr (Or.inl e))) (fun h => (List.mem_append.mp h).elim (fun h => ha w (List.mem_cons.mpr (Or.inr h))) (hb w))
theorem goodIn_sub {big ws : List Cond} (hm : ∀ w ∈ ws, w ∈ big) (h : ws.all goodWord = true) : GoodIn big ws := fun w hw => ⟨hm w hw, good_of_word (List.all_eq_true.mp h w hw)⟩
/-! ===== END ===== -/

/-! ===== BEGIN printed: names, fields, word lists, decode rows ===== -/
def RX0 : String := "OddPayments$Asker"
def TX0 : u_T := fun k => match k with
  | 0 => ("OddPayments$Asker", "trail", "[I", true)
  | 1 => ("OddPayments$Asker", "steps", "I", false)
  | 2 => ("OddPayments$Asker", "asked", "LOddPayments$Payment;", false)
  | 3 => ("OddPayments$Asker", "own", "I", false)
  | _ => ("OddPayments$Asker", "score", "I", false)
def tyX0 : Nat → FieldType := fun k => match k with
  | 0 => .array .int
  | 1 => .int
  | 2 => .object "OddPayments$Payment"
  | 3 => .int
  | _ => .int
abbrev wsX00 : List Cond := u_ws RX0 TX0 5
theorem nmX0 : ∀ a, a < 5 → ∀ b, b < 5 → a ≠ b → (TX0 a).2.1 ≠ (TX0 b).2.1 := by decide +kernel
theorem tyX0_ok : ∀ k, k < 5 → parseFieldDescriptor (TX0 k).2.2.1 = some (tyX0 k) := by decide +kernel
abbrev cX0_init : ByteArray := prog_2_method_1_code
def yX0_init : MethodName := ⟨RX0, "<init>", "()V"⟩
abbrev cX0_answer : ByteArray := prog_2_method_2_code
def yX0_answer : MethodName := ⟨RX0, "answer", "(ILOddPayments$Payment;II)I"⟩
abbrev cX0_body : ByteArray := prog_2_method_3_code
def yX0_body : MethodName := ⟨RX0, "body", "(II)I"⟩
def RX1 : String := "OddPayments$Drift"
def TX1 : u_T := fun k => match k with
  | 0 => ("OddPayments$Drift", "first", "I", false)
  | 1 => ("OddPayments$Drift", "second", "I", false)
  | 2 => ("OddPayments$Drift", "x", "I", false)
  | _ => ("OddPayments$Drift", "y", "I", false)
def tyX1 : Nat → FieldType := fun k => match k with
  | 0 => .int
  | 1 => .int
  | 2 => .int
  | _ => .int
abbrev wsX10 : List Cond := u_ws RX1 TX1 4
theorem nmX1 : ∀ a, a < 4 → ∀ b, b < 4 → a ≠ b → (TX1 a).2.1 ≠ (TX1 b).2.1 := by decide +kernel
theorem tyX1_ok : ∀ k, k < 4 → parseFieldDescriptor (TX1 k).2.2.1 = some (tyX1 k) := by decide +kernel
abbrev cX1_init : ByteArray := prog_3_method_1_code
def yX1_init : MethodName := ⟨RX1, "<init>", "()V"⟩
abbrev cX1_tally : ByteArray := prog_3_method_2_code
def yX1_tally : MethodName := ⟨RX1, "tally", "(LOddPayments$Ledger;IIII)V"⟩
abbrev cX1_tell : ByteArray := prog_3_method_3_code
def yX1_tell : MethodName := ⟨RX1, "tell", "(I)J"⟩
abbrev cX1_waysAsFar : ByteArray := prog_3_method_4_code
def yX1_waysAsFar : MethodName := ⟨RX1, "waysAsFar", "()J"⟩
abbrev cX1_apart : ByteArray := prog_3_method_5_code
def yX1_apart : MethodName := ⟨RX1, "apart", "(II)I"⟩
abbrev cX1_choose : ByteArray := prog_3_method_6_code
def yX1_choose : MethodName := ⟨RX1, "choose", "(II)J"⟩
def RX2 : String := "OddPayments$Judge"
def TX2 : u_T := fun k => match k with
  | 0 => ("OddPayments$Judge", "book", "LOddPayments$RuleBook;", false)
  | 1 => ("OddPayments$Judge", "line", "[LOddPayments$Payment;", true)
  | 2 => ("OddPayments$Judge", "waiting", "I", false)
  | 3 => ("OddPayments$Judge", "ledger", "LOddPayments$Ledger;", true)
  | 4 => ("OddPayments$Judge", "row", "LOddPayments$Row;", true)
  | 5 => ("OddPayments$Judge", "held", "[I", true)
  | 6 => ("OddPayments$Judge", "scores", "[I", true)
  | _ => ("OddPayments$Judge", "worths", "[J", true)
def tyX2 : Nat → FieldType := fun k => match k with
  | 0 => .object "OddPayments$RuleBook"
  | 1 => .array (.object "OddPayments$Payment")
  | 2 => .int
  | 3 => .object "OddPayments$Ledger"
  | 4 => .object "OddPayments$Row"
  | 5 => .array .int
  | 6 => .array .int
  | _ => .array .long
abbrev wsX20 : List Cond := u_ws RX2 TX2 8
theorem nmX2 : ∀ a, a < 8 → ∀ b, b < 8 → a ≠ b → (TX2 a).2.1 ≠ (TX2 b).2.1 := by decide +kernel
theorem tyX2_ok : ∀ k, k < 8 → parseFieldDescriptor (TX2 k).2.2.1 = some (tyX2 k) := by decide +kernel
abbrev cX2_init : ByteArray := prog_4_method_1_code
def yX2_init : MethodName := ⟨RX2, "<init>", "(LOddPayments$Ledger;)V"⟩
abbrev cX2_forget : ByteArray := prog_4_method_2_code
def yX2_forget : MethodName := ⟨RX2, "forget", "()V"⟩
abbrev cX2_follow : ByteArray := prog_4_method_3_code
def yX2_follow : MethodName := ⟨RX2, "follow", "(LOddPayments$RuleBook;)V"⟩
abbrev cX2_rowOf : ByteArray := prog_4_method_4_code
def yX2_rowOf : MethodName := ⟨RX2, "rowOf", "(LOddPayments$Payment;I)LOddPayments$Row;"⟩
abbrev cX2_heldBy : ByteArray := prog_4_method_5_code
def yX2_heldBy : MethodName := ⟨RX2, "heldBy", "(LOddPayments$Payment;I)I"⟩
abbrev cX2_scoreOf : ByteArray := prog_4_method_6_code
def yX2_scoreOf : MethodName := ⟨RX2, "scoreOf", "(LOddPayments$Payment;I)I"⟩
abbrev cX2_actOf : ByteArray := prog_4_method_7_code
def yX2_actOf : MethodName := ⟨RX2, "actOf", "(LOddPayments$Payment;I)I"⟩
abbrev cX2_slotOf : ByteArray := prog_4_method_8_code
def yX2_slotOf : MethodName := ⟨RX2, "slotOf", "(LOddPayments$Payment;I)I"⟩
abbrev cX2_actIf : ByteArray := prog_4_method_9_code
def yX2_actIf : MethodName := ⟨RX2, "actIf", "(LOddPayments$Payment;I)I"⟩
abbrev cX2_whyOf : ByteArray := prog_4_method_10_code
def yX2_whyOf : MethodName := ⟨RX2, "whyOf", "(LOddPayments$Payment;I)I"⟩
abbrev cX2_kindOf : ByteArray := prog_4_method_11_code
def yX2_kindOf : MethodName := ⟨RX2, "kindOf", "(LOddPayments$Payment;)I"⟩
abbrev cX2_manyWith : ByteArray := prog_4_method_12_code
def yX2_manyWith : MethodName := ⟨RX2, "manyWith", "(I)I"⟩
abbrev cX2_manyOtherThen : ByteArray := prog_4_method_13_code
def yX2_manyOtherThen : MethodName := ⟨RX2, "manyOtherThen", "()I"⟩
abbrev cX2_lineUp : ByteArray := prog_4_method_14_code
def yX2_lineUp : MethodName := ⟨RX2, "lineUp", "()V"⟩
abbrev cX2_queueIn : ByteArray := prog_4_method_15_code
def yX2_queueIn : MethodName := ⟨RX2, "queueIn", "(LOddPayments$Payment;J)V"⟩
def RX3 : String := "OddPayments$Ledger"
def TX3 : u_T := fun k => match k with
  | 0 => ("OddPayments$Ledger", "byTag", "[LOddPayments$Payment;", true)
  | 1 => ("OddPayments$Ledger", "ordered", "[LOddPayments$Payment;", true)
  | 2 => ("OddPayments$Ledger", "size", "I", false)
  | _ => ("OddPayments$Ledger", "marked", "I", false)
def tyX3 : Nat → FieldType := fun k => match k with
  | 0 => .array (.object "OddPayments$Payment")
  | 1 => .array (.object "OddPayments$Payment")
  | 2 => .int
  | _ => .int
abbrev wsX30 : List Cond := u_ws RX3 TX3 4
theorem nmX3 : ∀ a, a < 4 → ∀ b, b < 4 → a ≠ b → (TX3 a).2.1 ≠ (TX3 b).2.1 := by decide +kernel
theorem tyX3_ok : ∀ k, k < 4 → parseFieldDescriptor (TX3 k).2.2.1 = some (tyX3 k) := by decide +kernel
abbrev cX3_init : ByteArray := prog_5_method_1_code
def yX3_init : MethodName := ⟨RX3, "<init>", "()V"⟩
abbrev cX3_find : ByteArray := prog_5_method_2_code
def yX3_find : MethodName := ⟨RX3, "find", "(I)LOddPayments$Payment;"⟩
abbrev cX3_inOrder : ByteArray := prog_5_method_3_code
def yX3_inOrder : MethodName := ⟨RX3, "inOrder", "(I)LOddPayments$Payment;"⟩
abbrev cX3_take : ByteArray := prog_5_method_4_code
def yX3_take : MethodName := ⟨RX3, "take", "(LOddPayments$Payment;)V"⟩
abbrev cX3_isMarked : ByteArray := prog_5_method_5_code
def yX3_isMarked : MethodName := ⟨RX3, "isMarked", "(I)Z"⟩
abbrev cX3_turnMark : ByteArray := prog_5_method_6_code
def yX3_turnMark : MethodName := ⟨RX3, "turnMark", "(I)V"⟩
abbrev cX3_manyJudged : ByteArray := prog_5_method_7_code
def yX3_manyJudged : MethodName := ⟨RX3, "manyJudged", "(I)I"⟩
abbrev cX3_manyBetween : ByteArray := prog_5_method_8_code
def yX3_manyBetween : MethodName := ⟨RX3, "manyBetween", "(III)I"⟩
def RX4 : String := "OddPayments$Payment"
def TX4 : u_T := fun k => match k with
  | 0 => ("OddPayments$Payment", "tag", "I", true)
  | 1 => ("OddPayments$Payment", "time", "I", true)
  | 2 => ("OddPayments$Payment", "payer", "I", true)
  | 3 => ("OddPayments$Payment", "payee", "I", true)
  | 4 => ("OddPayments$Payment", "amount", "I", true)
  | 5 => ("OddPayments$Payment", "sort", "I", true)
  | 6 => ("OddPayments$Payment", "number", "I", true)
  | _ => ("OddPayments$Payment", "verdict", "I", false)
def tyX4 : Nat → FieldType := fun k => match k with
  | 0 => .int
  | 1 => .int
  | 2 => .int
  | 3 => .int
  | 4 => .int
  | 5 => .int
  | 6 => .int
  | _ => .int
abbrev wsX40 : List Cond := u_ws RX4 TX4 8
theorem nmX4 : ∀ a, a < 8 → ∀ b, b < 8 → a ≠ b → (TX4 a).2.1 ≠ (TX4 b).2.1 := by decide +kernel
theorem tyX4_ok : ∀ k, k < 8 → parseFieldDescriptor (TX4 k).2.2.1 = some (tyX4 k) := by decide +kernel
abbrev cX4_init : ByteArray := prog_6_method_1_code
def yX4_init : MethodName := ⟨RX4, "<init>", "(IIIIIII)V"⟩
abbrev cX4_comesBefore : ByteArray := prog_6_method_2_code
def yX4_comesBefore : MethodName := ⟨RX4, "comesBefore", "(LOddPayments$Payment;)Z"⟩
def RX5 : String := "OddPayments$Pricer"
def TX5 : u_T := fun k => match k with
  | 0 => ("OddPayments$Pricer", "blockCost", "I", false)
  | 1 => ("OddPayments$Pricer", "lookCost", "I", false)
  | 2 => ("OddPayments$Pricer", "bestLook", "I", false)
  | 3 => ("OddPayments$Pricer", "bestBlock", "I", false)
  | 4 => ("OddPayments$Pricer", "bestPrice", "J", false)
  | 5 => ("OddPayments$Pricer", "ledger", "LOddPayments$Ledger;", true)
  | 6 => ("OddPayments$Pricer", "judge", "LOddPayments$Judge;", true)
  | 7 => ("OddPayments$Pricer", "scores", "[I", true)
  | 8 => ("OddPayments$Pricer", "losses", "[I", true)
  | 9 => ("OddPayments$Pricer", "rated", "I", false)
  | 10 => ("OddPayments$Pricer", "thresholds", "[I", true)
  | 11 => ("OddPayments$Pricer", "steps", "I", false)
  | _ => ("OddPayments$Pricer", "sums", "[I", true)
def tyX5 : Nat → FieldType := fun k => match k with
  | 0 => .int
  | 1 => .int
  | 2 => .int
  | 3 => .int
  | 4 => .long
  | 5 => .object "OddPayments$Ledger"
  | 6 => .object "OddPayments$Judge"
  | 7 => .array .int
  | 8 => .array .int
  | 9 => .int
  | 10 => .array .int
  | 11 => .int
  | _ => .array .int
abbrev wsX50 : List Cond := u_ws RX5 TX5 13
theorem nmX5 : ∀ a, a < 13 → ∀ b, b < 13 → a ≠ b → (TX5 a).2.1 ≠ (TX5 b).2.1 := by decide +kernel
theorem tyX5_ok : ∀ k, k < 13 → parseFieldDescriptor (TX5 k).2.2.1 = some (tyX5 k) := by decide +kernel
abbrev cX5_init : ByteArray := prog_7_method_1_code
def yX5_init : MethodName := ⟨RX5, "<init>", "(LOddPayments$Ledger;LOddPayments$Judge;)V"⟩
abbrev cX5_priceOf : ByteArray := prog_7_method_2_code
def yX5_priceOf : MethodName := ⟨RX5, "priceOf", "(II)J"⟩
abbrev cX5_findBest : ByteArray := prog_7_method_3_code
def yX5_findBest : MethodName := ⟨RX5, "findBest", "()V"⟩
abbrev cX5_rate : ByteArray := prog_7_method_4_code
def yX5_rate : MethodName := ⟨RX5, "rate", "()V"⟩
abbrev cX5_lookPart : ByteArray := prog_7_method_5_code
def yX5_lookPart : MethodName := ⟨RX5, "lookPart", "(I)J"⟩
abbrev cX5_blockPart : ByteArray := prog_7_method_6_code
def yX5_blockPart : MethodName := ⟨RX5, "blockPart", "(I)J"⟩
abbrev cX5_findThresholds : ByteArray := prog_7_method_7_code
def yX5_findThresholds : MethodName := ⟨RX5, "findThresholds", "()V"⟩
abbrev cX5_addThreshold : ByteArray := prog_7_method_8_code
def yX5_addThreshold : MethodName := ⟨RX5, "addThreshold", "(I)V"⟩
abbrev cX5_priceOfSet : ByteArray := prog_7_method_9_code
def yX5_priceOfSet : MethodName := ⟨RX5, "priceOfSet", "(II)J"⟩
abbrev cX5_learn : ByteArray := prog_7_method_10_code
def yX5_learn : MethodName := ⟨RX5, "learn", "()I"⟩
abbrev cX5_sumUp : ByteArray := prog_7_method_11_code
def yX5_sumUp : MethodName := ⟨RX5, "sumUp", "()V"⟩
def RX6 : String := "OddPayments$Reader"
def TX6 : u_T := fun k => match k with
  | 0 => ("OddPayments$Reader", "wrong", "I", false)
  | 1 => ("OddPayments$Reader", "wrongPlace", "I", false)
  | 2 => ("OddPayments$Reader", "tape", "LOddPayments$Tape;", true)
  | 3 => ("OddPayments$Reader", "book", "LOddPayments$RuleBook;", false)
  | 4 => ("OddPayments$Reader", "at", "I", false)
  | 5 => ("OddPayments$Reader", "token", "I", false)
  | _ => ("OddPayments$Reader", "value", "I", false)
def tyX6 : Nat → FieldType := fun k => match k with
  | 0 => .int
  | 1 => .int
  | 2 => .object "OddPayments$Tape"
  | 3 => .object "OddPayments$RuleBook"
  | 4 => .int
  | 5 => .int
  | _ => .int
abbrev wsX60 : List Cond := u_ws RX6 TX6 7
theorem nmX6 : ∀ a, a < 7 → ∀ b, b < 7 → a ≠ b → (TX6 a).2.1 ≠ (TX6 b).2.1 := by decide +kernel
theorem tyX6_ok : ∀ k, k < 7 → parseFieldDescriptor (TX6 k).2.2.1 = some (tyX6 k) := by decide +kernel
abbrev cX6_init : ByteArray := prog_8_method_1_code
def yX6_init : MethodName := ⟨RX6, "<init>", "(LOddPayments$Tape;)V"⟩
abbrev cX6_read : ByteArray := prog_8_method_2_code
def yX6_read : MethodName := ⟨RX6, "read", "(LOddPayments$RuleBook;)Z"⟩
abbrev cX6_goTo : ByteArray := prog_8_method_3_code
def yX6_goTo : MethodName := ⟨RX6, "goTo", "(I)V"⟩
abbrev cX6_goOn : ByteArray := prog_8_method_4_code
def yX6_goOn : MethodName := ⟨RX6, "goOn", "()V"⟩
abbrev cX6_readStatement : ByteArray := prog_8_method_5_code
def yX6_readStatement : MethodName := ⟨RX6, "readStatement", "()Z"⟩
abbrev cX6_readLimit : ByteArray := prog_8_method_6_code
def yX6_readLimit : MethodName := ⟨RX6, "readLimit", "(I)Z"⟩
abbrev cX6_readRule : ByteArray := prog_8_method_7_code
def yX6_readRule : MethodName := ⟨RX6, "readRule", "()Z"⟩
abbrev cX6_readTest : ByteArray := prog_8_method_8_code
def yX6_readTest : MethodName := ⟨RX6, "readTest", "()Z"⟩
abbrev cX6_isWord : ByteArray := prog_8_method_9_code
def yX6_isWord : MethodName := ⟨RX6, "isWord", "(I)Z"⟩
abbrev cX6_hasNumber : ByteArray := prog_8_method_10_code
def yX6_hasNumber : MethodName := ⟨RX6, "hasNumber", "(II)Z"⟩
abbrev cX6_passEnd : ByteArray := prog_8_method_11_code
def yX6_passEnd : MethodName := ⟨RX6, "passEnd", "()Z"⟩
abbrev cX6_fail : ByteArray := prog_8_method_12_code
def yX6_fail : MethodName := ⟨RX6, "fail", "(I)Z"⟩
def RX7 : String := "OddPayments$Row"
def TX7 : u_T := fun k => match k with
  | 0 => ("OddPayments$Row", "values", "[I", true)
  | 1 => ("OddPayments$Row", "faded", "I", false)
  | 2 => ("OddPayments$Row", "links", "[I", true)
  | 3 => ("OddPayments$Row", "payees", "I", false)
  | 4 => ("OddPayments$Row", "latest", "I", false)
  | 5 => ("OddPayments$Row", "window", "I", false)
  | _ => ("OddPayments$Row", "decay", "I", false)
def tyX7 : Nat → FieldType := fun k => match k with
  | 0 => .array .int
  | 1 => .int
  | 2 => .array .int
  | 3 => .int
  | 4 => .int
  | 5 => .int
  | _ => .int
abbrev wsX70 : List Cond := u_ws RX7 TX7 7
theorem nmX7 : ∀ a, a < 7 → ∀ b, b < 7 → a ≠ b → (TX7 a).2.1 ≠ (TX7 b).2.1 := by decide +kernel
theorem tyX7_ok : ∀ k, k < 7 → parseFieldDescriptor (TX7 k).2.2.1 = some (tyX7 k) := by decide +kernel
abbrev cX7_init : ByteArray := prog_9_method_1_code
def yX7_init : MethodName := ⟨RX7, "<init>", "()V"⟩
abbrev cX7_gather : ByteArray := prog_9_method_2_code
def yX7_gather : MethodName := ⟨RX7, "gather", "(LOddPayments$Ledger;LOddPayments$Payment;ILOddPayments$RuleBook;)V"⟩
abbrev cX7_takeAmount : ByteArray := prog_9_method_3_code
def yX7_takeAmount : MethodName := ⟨RX7, "takeAmount", "(I)V"⟩
abbrev cX7_begin : ByteArray := prog_9_method_4_code
def yX7_begin : MethodName := ⟨RX7, "begin", "(LOddPayments$Payment;LOddPayments$RuleBook;)V"⟩
abbrev cX7_add : ByteArray := prog_9_method_5_code
def yX7_add : MethodName := ⟨RX7, "add", "(LOddPayments$Payment;LOddPayments$Payment;)V"⟩
abbrev cX7_fade : ByteArray := prog_9_method_6_code
def yX7_fade : MethodName := ⟨RX7, "fade", "(II)I"⟩
abbrev cX7_far : ByteArray := prog_9_method_7_code
def yX7_far : MethodName := ⟨RX7, "far", "(II)I"⟩
abbrev cX7_linkedTo : ByteArray := prog_9_method_8_code
def yX7_linkedTo : MethodName := ⟨RX7, "linkedTo", "(I)I"⟩
def RX8 : String := "OddPayments$RuleBook"
def TX8 : u_T := fun k => match k with
  | 0 => ("OddPayments$RuleBook", "limits", "[I", true)
  | 1 => ("OddPayments$RuleBook", "size", "I", false)
  | 2 => ("OddPayments$RuleBook", "weights", "[I", true)
  | 3 => ("OddPayments$RuleBook", "tests", "[I", true)
  | 4 => ("OddPayments$RuleBook", "features", "[I", true)
  | 5 => ("OddPayments$RuleBook", "signs", "[I", true)
  | _ => ("OddPayments$RuleBook", "numbers", "[I", true)
def tyX8 : Nat → FieldType := fun k => match k with
  | 0 => .array .int
  | 1 => .int
  | 2 => .array .int
  | 3 => .array .int
  | 4 => .array .int
  | 5 => .array .int
  | _ => .array .int
abbrev wsX80 : List Cond := u_ws RX8 TX8 7
theorem nmX8 : ∀ a, a < 7 → ∀ b, b < 7 → a ≠ b → (TX8 a).2.1 ≠ (TX8 b).2.1 := by decide +kernel
theorem tyX8_ok : ∀ k, k < 7 → parseFieldDescriptor (TX8 k).2.2.1 = some (tyX8 k) := by decide +kernel
abbrev cX8_init : ByteArray := prog_10_method_1_code
def yX8_init : MethodName := ⟨RX8, "<init>", "()V"⟩
abbrev cX8_clear : ByteArray := prog_10_method_2_code
def yX8_clear : MethodName := ⟨RX8, "clear", "()V"⟩
abbrev cX8_addRule : ByteArray := prog_10_method_3_code
def yX8_addRule : MethodName := ⟨RX8, "addRule", "(I)V"⟩
abbrev cX8_addTest : ByteArray := prog_10_method_4_code
def yX8_addTest : MethodName := ⟨RX8, "addTest", "(III)V"⟩
abbrev cX8_allRules : ByteArray := prog_10_method_5_code
def yX8_allRules : MethodName := ⟨RX8, "allRules", "()I"⟩
abbrev cX8_thatHold : ByteArray := prog_10_method_6_code
def yX8_thatHold : MethodName := ⟨RX8, "thatHold", "([I)I"⟩
abbrev cX8_holds : ByteArray := prog_10_method_7_code
def yX8_holds : MethodName := ⟨RX8, "holds", "(I[I)Z"⟩
abbrev cX8_weigh : ByteArray := prog_10_method_8_code
def yX8_weigh : MethodName := ⟨RX8, "weigh", "(I)I"⟩
abbrev cX8_actAt : ByteArray := prog_10_method_9_code
def yX8_actAt : MethodName := ⟨RX8, "actAt", "(I)I"⟩
abbrev cX8_fewest : ByteArray := prog_10_method_10_code
def yX8_fewest : MethodName := ⟨RX8, "fewest", "(II)I"⟩
abbrev cX8_fewestThatReach : ByteArray := prog_10_method_11_code
def yX8_fewestThatReach : MethodName := ⟨RX8, "fewestThatReach", "(II)I"⟩
abbrev cX8_heaviest : ByteArray := prog_10_method_12_code
def yX8_heaviest : MethodName := ⟨RX8, "heaviest", "(II)I"⟩
def RX9 : String := "OddPayments$Sheet"
def TX9 : u_T := fun k => match k with
  | 0 => ("OddPayments$Sheet", "items", "[I", true)
  | 1 => ("OddPayments$Sheet", "there", "Z", false)
  | 2 => ("OddPayments$Sheet", "lane", "I", false)
  | _ => ("OddPayments$Sheet", "size", "I", false)
def tyX9 : Nat → FieldType := fun k => match k with
  | 0 => .array .int
  | 1 => .boolean
  | 2 => .int
  | _ => .int
abbrev wsX90 : List Cond := u_ws RX9 TX9 4
theorem nmX9 : ∀ a, a < 4 → ∀ b, b < 4 → a ≠ b → (TX9 a).2.1 ≠ (TX9 b).2.1 := by decide +kernel
theorem tyX9_ok : ∀ k, k < 4 → parseFieldDescriptor (TX9 k).2.2.1 = some (tyX9 k) := by decide +kernel
abbrev cX9_init : ByteArray := prog_11_method_1_code
def yX9_init : MethodName := ⟨RX9, "<init>", "()V"⟩
abbrev cX9_lay : ByteArray := prog_11_method_2_code
def yX9_lay : MethodName := ⟨RX9, "lay", "(II)V"⟩
abbrev cX9_has : ByteArray := prog_11_method_3_code
def yX9_has : MethodName := ⟨RX9, "has", "(II)Z"⟩
abbrev cX9_put : ByteArray := prog_11_method_4_code
def yX9_put : MethodName := ⟨RX9, "put", "(II)I"⟩
def RX10 : String := "OddPayments$Tape"
def TX10 : u_T := fun k => match k with
  | 0 => ("OddPayments$Tape", "tokens", "[I", true)
  | 1 => ("OddPayments$Tape", "values", "[I", true)
  | 2 => ("OddPayments$Tape", "places", "[I", true)
  | 3 => ("OddPayments$Tape", "size", "I", false)
  | 4 => ("OddPayments$Tape", "bytes", "[B", true)
  | _ => ("OddPayments$Tape", "many", "I", false)
def tyX10 : Nat → FieldType := fun k => match k with
  | 0 => .array .int
  | 1 => .array .int
  | 2 => .array .int
  | 3 => .int
  | 4 => .array .byte
  | _ => .int
abbrev wsX100 : List Cond := u_ws RX10 TX10 6
theorem nmX10 : ∀ a, a < 6 → ∀ b, b < 6 → a ≠ b → (TX10 a).2.1 ≠ (TX10 b).2.1 := by decide +kernel
theorem tyX10_ok : ∀ k, k < 6 → parseFieldDescriptor (TX10 k).2.2.1 = some (tyX10 k) := by decide +kernel
abbrev cX10_init : ByteArray := prog_12_method_1_code
def yX10_init : MethodName := ⟨RX10, "<init>", "()V"⟩
abbrev cX10_add : ByteArray := prog_12_method_2_code
def yX10_add : MethodName := ⟨RX10, "add", "(JI)V"⟩
abbrev cX10_split : ByteArray := prog_12_method_3_code
def yX10_split : MethodName := ⟨RX10, "split", "()V"⟩
abbrev cX10_endOf : ByteArray := prog_12_method_4_code
def yX10_endOf : MethodName := ⟨RX10, "endOf", "(I)I"⟩
abbrev cX10_takeToken : ByteArray := prog_12_method_5_code
def yX10_takeToken : MethodName := ⟨RX10, "takeToken", "(II)V"⟩
abbrev cX10_keep : ByteArray := prog_12_method_6_code
def yX10_keep : MethodName := ⟨RX10, "keep", "(III)V"⟩
abbrev cX10_wordAt : ByteArray := prog_12_method_7_code
def yX10_wordAt : MethodName := ⟨RX10, "wordAt", "(II)I"⟩
abbrev cX10_isSpelt : ByteArray := prog_12_method_8_code
def yX10_isSpelt : MethodName := ⟨RX10, "isSpelt", "(III)Z"⟩
abbrev cX10_numberAt : ByteArray := prog_12_method_9_code
def yX10_numberAt : MethodName := ⟨RX10, "numberAt", "(II)I"⟩
abbrev cX10_isLetter : ByteArray := prog_12_method_10_code
def yX10_isLetter : MethodName := ⟨RX10, "isLetter", "(I)Z"⟩
abbrev cX10_isFigure : ByteArray := prog_12_method_11_code
def yX10_isFigure : MethodName := ⟨RX10, "isFigure", "(I)Z"⟩
def RX11 : String := "OddPayments"
def TX11 : u_T := fun k => match k with
  | 0 => ("OddPayments", "sheets", "[LOddPayments$Sheet;", true)
  | 1 => ("OddPayments", "ledger", "LOddPayments$Ledger;", true)
  | 2 => ("OddPayments", "tape", "LOddPayments$Tape;", true)
  | 3 => ("OddPayments", "reader", "LOddPayments$Reader;", true)
  | 4 => ("OddPayments", "judge", "LOddPayments$Judge;", true)
  | 5 => ("OddPayments", "pricer", "LOddPayments$Pricer;", true)
  | 6 => ("OddPayments", "shift", "LOddPayments$Drift;", true)
  | 7 => ("OddPayments", "asker", "LOddPayments$Asker;", true)
  | 8 => ("OddPayments", "spare", "LOddPayments$RuleBook;", false)
  | 9 => ("OddPayments", "latestFault", "I", false)
  | _ => ("OddPayments", "finding", "I", false)
def tyX11 : Nat → FieldType := fun k => match k with
  | 0 => .array (.object "OddPayments$Sheet")
  | 1 => .object "OddPayments$Ledger"
  | 2 => .object "OddPayments$Tape"
  | 3 => .object "OddPayments$Reader"
  | 4 => .object "OddPayments$Judge"
  | 5 => .object "OddPayments$Pricer"
  | 6 => .object "OddPayments$Drift"
  | 7 => .object "OddPayments$Asker"
  | 8 => .object "OddPayments$RuleBook"
  | 9 => .int
  | _ => .int
abbrev wsX110 : List Cond := u_ws RX11 TX11 11
theorem nmX11 : ∀ a, a < 11 → ∀ b, b < 11 → a ≠ b → (TX11 a).2.1 ≠ (TX11 b).2.1 := by decide +kernel
theorem tyX11_ok : ∀ k, k < 11 → parseFieldDescriptor (TX11 k).2.2.1 = some (tyX11 k) := by decide +kernel
abbrev cX11_init : ByteArray := prog_1_method_1_code
def yX11_init : MethodName := ⟨RX11, "<init>", "()V"⟩
abbrev cX11_sheet : ByteArray := prog_1_method_2_code
def yX11_sheet : MethodName := ⟨RX11, "sheet", "(III)I"⟩
abbrev cX11_set : ByteArray := prog_1_method_3_code
def yX11_set : MethodName := ⟨RX11, "set", "(III)I"⟩
abbrev cX11_copy : ByteArray := prog_1_method_4_code
def yX11_copy : MethodName := ⟨RX11, "copy", "(IIIII)I"⟩
abbrev cX11_drop : ByteArray := prog_1_method_5_code
def yX11_drop : MethodName := ⟨RX11, "drop", "(I)I"⟩
abbrev cX11_pay : ByteArray := prog_1_method_6_code
def yX11_pay : MethodName := ⟨RX11, "pay", "(IIIIII)I"⟩
abbrev cX11_batch : ByteArray := prog_1_method_7_code
def yX11_batch : MethodName := ⟨RX11, "batch", "(III)I"⟩
abbrev cX11_told : ByteArray := prog_1_method_8_code
def yX11_told : MethodName := ⟨RX11, "told", "(II)I"⟩
abbrev cX11_order : ByteArray := prog_1_method_9_code
def yX11_order : MethodName := ⟨RX11, "order", "(I)I"⟩
abbrev cX11_mark : ByteArray := prog_1_method_10_code
def yX11_mark : MethodName := ⟨RX11, "mark", "(II)I"⟩
abbrev cX11_feature : ByteArray := prog_1_method_11_code
def yX11_feature : MethodName := ⟨RX11, "feature", "(III)I"⟩
abbrev cX11_profile : ByteArray := prog_1_method_12_code
def yX11_profile : MethodName := ⟨RX11, "profile", "(II)I"⟩
abbrev cX11_feed : ByteArray := prog_1_method_13_code
def yX11_feed : MethodName := ⟨RX11, "feed", "(JI)I"⟩
abbrev cX11_rules : ByteArray := prog_1_method_14_code
def yX11_rules : MethodName := ⟨RX11, "rules", "()I"⟩
abbrev cX11_fault : ByteArray := prog_1_method_15_code
def yX11_fault : MethodName := ⟨RX11, "fault", "()I"⟩
abbrev cX11_rule : ByteArray := prog_1_method_16_code
def yX11_rule : MethodName := ⟨RX11, "rule", "(I)I"⟩
abbrev cX11_judged : ByteArray := prog_1_method_17_code
def yX11_judged : MethodName := ⟨RX11, "judged", "(III)I"⟩
abbrev cX11_would : ByteArray := prog_1_method_18_code
def yX11_would : MethodName := ⟨RX11, "would", "(II)I"⟩
abbrev cX11_acts : ByteArray := prog_1_method_19_code
def yX11_acts : MethodName := ⟨RX11, "acts", "(I)I"⟩
abbrev cX11_verdict : ByteArray := prog_1_method_20_code
def yX11_verdict : MethodName := ⟨RX11, "verdict", "(II)I"⟩
abbrev cX11_queue : ByteArray := prog_1_method_21_code
def yX11_queue : MethodName := ⟨RX11, "queue", "(I)I"⟩
abbrev cX11_cost : ByteArray := prog_1_method_22_code
def yX11_cost : MethodName := ⟨RX11, "cost", "(II)I"⟩
abbrev cX11_setting : ByteArray := prog_1_method_23_code
def yX11_setting : MethodName := ⟨RX11, "setting", "(II)J"⟩
abbrev cX11_bestSetting : ByteArray := prog_1_method_24_code
def yX11_bestSetting : MethodName := ⟨RX11, "bestSetting", "(I)J"⟩
abbrev cX11_learnt : ByteArray := prog_1_method_25_code
def yX11_learnt : MethodName := ⟨RX11, "learnt", "(I)J"⟩
abbrev cX11_costs : ByteArray := prog_1_method_26_code
def yX11_costs : MethodName := ⟨RX11, "costs", "(II)J"⟩
abbrev cX11_drift : ByteArray := prog_1_method_27_code
def yX11_drift : MethodName := ⟨RX11, "drift", "(IIIII)J"⟩
abbrev cX11_counted : ByteArray := prog_1_method_28_code
def yX11_counted : MethodName := ⟨RX11, "counted", "(III)I"⟩
abbrev cX11_kind : ByteArray := prog_1_method_29_code
def yX11_kind : MethodName := ⟨RX11, "kind", "(I)I"⟩
abbrev cX11_as : ByteArray := prog_1_method_30_code
def yX11_as : MethodName := ⟨RX11, "as", "(II)I"⟩
abbrev cX11_ask : ByteArray := prog_1_method_31_code
def yX11_ask : MethodName := ⟨RX11, "ask", "(II)I"⟩
abbrev cX11_trace : ByteArray := prog_1_method_32_code
def yX11_trace : MethodName := ⟨RX11, "trace", "(I)I"⟩
abbrev cX11_count : ByteArray := prog_1_method_33_code
def yX11_count : MethodName := ⟨RX11, "count", "(I)I"⟩
abbrev cX11_status : ByteArray := prog_1_method_34_code
def yX11_status : MethodName := ⟨RX11, "status", "()I"⟩
abbrev cX11_within : ByteArray := prog_1_method_35_code
def yX11_within : MethodName := ⟨RX11, "within", "(III)Z"⟩
abbrev cX11_areBounds : ByteArray := prog_1_method_36_code
def yX11_areBounds : MethodName := ⟨RX11, "areBounds", "(II)Z"⟩
abbrev cX11_isSheet : ByteArray := prog_1_method_37_code
def yX11_isSheet : MethodName := ⟨RX11, "isSheet", "(I)Z"⟩
abbrev cX11_found : ByteArray := prog_1_method_38_code
def yX11_found : MethodName := ⟨RX11, "found", "(I)I"⟩
abbrev cX11_unhurt : ByteArray := prog_1_method_39_code
def yX11_unhurt : MethodName := ⟨RX11, "unhurt", "(I)I"⟩
abbrev cX11_sheetsThere : ByteArray := prog_1_method_40_code
def yX11_sheetsThere : MethodName := ⟨RX11, "sheetsThere", "()I"⟩
abbrev cX11_admitFrom : ByteArray := prog_1_method_41_code
def yX11_admitFrom : MethodName := ⟨RX11, "admitFrom", "([II)I"⟩
abbrev cX11_admit : ByteArray := prog_1_method_42_code
def yX11_admit : MethodName := ⟨RX11, "admit", "(IIIIII)I"⟩
def RX12 : String := "OddPaymentsModel"
def TX12 : u_T := fun k => match k with
  | 0 => ("OddPaymentsModel", "thrown", "I", false)
  | 1 => ("OddPaymentsModel", "status", "I", false)
  | 2 => ("OddPaymentsModel", "lane", "[I", true)
  | 3 => ("OddPaymentsModel", "many", "[I", true)
  | 4 => ("OddPaymentsModel", "item", "[I", true)
  | 5 => ("OddPaymentsModel", "payments", "I", false)
  | 6 => ("OddPaymentsModel", "tag", "[I", true)
  | 7 => ("OddPaymentsModel", "time", "[I", true)
  | 8 => ("OddPaymentsModel", "payer", "[I", true)
  | 9 => ("OddPaymentsModel", "payee", "[I", true)
  | 10 => ("OddPaymentsModel", "amount", "[I", true)
  | 11 => ("OddPaymentsModel", "sortOf", "[I", true)
  | 12 => ("OddPaymentsModel", "verdict", "[I", true)
  | 13 => ("OddPaymentsModel", "order", "[I", true)
  | 14 => ("OddPaymentsModel", "marked", "I", false)
  | 15 => ("OddPaymentsModel", "window", "I", false)
  | 16 => ("OddPaymentsModel", "decay", "I", false)
  | 17 => ("OddPaymentsModel", "look", "I", false)
  | 18 => ("OddPaymentsModel", "block", "I", false)
  | 19 => ("OddPaymentsModel", "feature", "[I", true)
  | 20 => ("OddPaymentsModel", "rules", "I", false)
  | 21 => ("OddPaymentsModel", "weight", "[I", true)
  | 22 => ("OddPaymentsModel", "tests", "[I", true)
  | 23 => ("OddPaymentsModel", "test", "[I", true)
  | 24 => ("OddPaymentsModel", "newRules", "I", false)
  | 25 => ("OddPaymentsModel", "newWeight", "[I", true)
  | 26 => ("OddPaymentsModel", "newTests", "[I", true)
  | 27 => ("OddPaymentsModel", "newTest", "[I", true)
  | 28 => ("OddPaymentsModel", "limit", "[I", true)
  | 29 => ("OddPaymentsModel", "tape", "[I", true)
  | 30 => ("OddPaymentsModel", "taped", "I", false)
  | 31 => ("OddPaymentsModel", "latest", "I", false)
  | 32 => ("OddPaymentsModel", "size", "I", false)
  | 33 => ("OddPaymentsModel", "cursor", "I", false)
  | 34 => ("OddPaymentsModel", "token", "I", false)
  | 35 => ("OddPaymentsModel", "from", "I", false)
  | 36 => ("OddPaymentsModel", "till", "I", false)
  | 37 => ("OddPaymentsModel", "fault", "I", false)
  | 38 => ("OddPaymentsModel", "faultAt", "I", false)
  | 39 => ("OddPaymentsModel", "score", "[I", true)
  | 40 => ("OddPaymentsModel", "queued", "I", false)
  | 41 => ("OddPaymentsModel", "queue", "[I", true)
  | 42 => ("OddPaymentsModel", "costBy", "[I", true)
  | 43 => ("OddPaymentsModel", "holds", "[I", true)
  | 44 => ("OddPaymentsModel", "ways", "[J", true)
  | 45 => ("OddPaymentsModel", "trace", "[I", true)
  | _ => ("OddPaymentsModel", "traced", "I", false)
def tyX12 : Nat → FieldType := fun k => match k with
  | 0 => .int
  | 1 => .int
  | 2 => .array .int
  | 3 => .array .int
  | 4 => .array .int
  | 5 => .int
  | 6 => .array .int
  | 7 => .array .int
  | 8 => .array .int
  | 9 => .array .int
  | 10 => .array .int
  | 11 => .array .int
  | 12 => .array .int
  | 13 => .array .int
  | 14 => .int
  | 15 => .int
  | 16 => .int
  | 17 => .int
  | 18 => .int
  | 19 => .array .int
  | 20 => .int
  | 21 => .array .int
  | 22 => .array .int
  | 23 => .array .int
  | 24 => .int
  | 25 => .array .int
  | 26 => .array .int
  | 27 => .array .int
  | 28 => .array .int
  | 29 => .array .int
  | 30 => .int
  | 31 => .int
  | 32 => .int
  | 33 => .int
  | 34 => .int
  | 35 => .int
  | 36 => .int
  | 37 => .int
  | 38 => .int
  | 39 => .array .int
  | 40 => .int
  | 41 => .array .int
  | 42 => .array .int
  | 43 => .array .int
  | 44 => .array .long
  | 45 => .array .int
  | _ => .int
abbrev wsX120 : List Cond := u_ws RX12 TX12 47
theorem nmX12 : ∀ a, a < 47 → ∀ b, b < 47 → a ≠ b → (TX12 a).2.1 ≠ (TX12 b).2.1 := by decide +kernel
theorem tyX12_ok : ∀ k, k < 47 → parseFieldDescriptor (TX12 k).2.2.1 = some (tyX12 k) := by decide +kernel
abbrev cX12_init : ByteArray := prog_14_method_1_code
def yX12_init : MethodName := ⟨RX12, "<init>", "()V"⟩
abbrev cX12_in : ByteArray := prog_14_method_3_code
def yX12_in : MethodName := ⟨RX12, "in", "(JJJ)Z"⟩
abbrev cX12_found : ByteArray := prog_14_method_4_code
def yX12_found : MethodName := ⟨RX12, "found", "(I)I"⟩
abbrev cX12_isSheet : ByteArray := prog_14_method_5_code
def yX12_isSheet : MethodName := ⟨RX12, "isSheet", "(I)Z"⟩
abbrev cX12_sheet : ByteArray := prog_14_method_6_code
def yX12_sheet : MethodName := ⟨RX12, "sheet", "(III)I"⟩
abbrev cX12_set : ByteArray := prog_14_method_7_code
def yX12_set : MethodName := ⟨RX12, "set", "(III)I"⟩
abbrev cX12_copy : ByteArray := prog_14_method_8_code
def yX12_copy : MethodName := ⟨RX12, "copy", "(IIIII)I"⟩
abbrev cX12_drop : ByteArray := prog_14_method_9_code
def yX12_drop : MethodName := ⟨RX12, "drop", "(I)I"⟩
abbrev cX12_numberOf : ByteArray := prog_14_method_10_code
def yX12_numberOf : MethodName := ⟨RX12, "numberOf", "(I)I"⟩
abbrev cX12_isBefore : ByteArray := prog_14_method_11_code
def yX12_isBefore : MethodName := ⟨RX12, "isBefore", "(II)Z"⟩
abbrev cX12_coming : ByteArray := prog_14_method_12_code
def yX12_coming : MethodName := ⟨RX12, "coming", "(IIIIII)I"⟩
abbrev cX12_pay : ByteArray := prog_14_method_13_code
def yX12_pay : MethodName := ⟨RX12, "pay", "(IIIIII)I"⟩
abbrev cX12_batch : ByteArray := prog_14_method_14_code
def yX12_batch : MethodName := ⟨RX12, "batch", "(III)I"⟩
abbrev cX12_told : ByteArray := prog_14_method_15_code
def yX12_told : MethodName := ⟨RX12, "told", "(II)I"⟩
abbrev cX12_order : ByteArray := prog_14_method_16_code
def yX12_order : MethodName := ⟨RX12, "order", "(I)I"⟩
abbrev cX12_mark : ByteArray := prog_14_method_17_code
def yX12_mark : MethodName := ⟨RX12, "mark", "(II)I"⟩
abbrev cX12_isAhead : ByteArray := prog_14_method_18_code
def yX12_isAhead : MethodName := ⟨RX12, "isAhead", "(III)Z"⟩
abbrev cX12_faded : ByteArray := prog_14_method_19_code
def yX12_faded : MethodName := ⟨RX12, "faded", "(II)I"⟩
abbrev cX12_profileOf : ByteArray := prog_14_method_20_code
def yX12_profileOf : MethodName := ⟨RX12, "profileOf", "(II)I"⟩
abbrev cX12_farOf : ByteArray := prog_14_method_21_code
def yX12_farOf : MethodName := ⟨RX12, "farOf", "(II)I"⟩
abbrev cX12_features : ByteArray := prog_14_method_22_code
def yX12_features : MethodName := ⟨RX12, "features", "(III)V"⟩
abbrev cX12_bits : ByteArray := prog_14_method_23_code
def yX12_bits : MethodName := ⟨RX12, "bits", "(I)I"⟩
abbrev cX12_feature : ByteArray := prog_14_method_24_code
def yX12_feature : MethodName := ⟨RX12, "feature", "(III)I"⟩
abbrev cX12_profile : ByteArray := prog_14_method_25_code
def yX12_profile : MethodName := ⟨RX12, "profile", "(II)I"⟩
abbrev cX12_feed : ByteArray := prog_14_method_26_code
def yX12_feed : MethodName := ⟨RX12, "feed", "(JI)I"⟩
abbrev cX12_byteAt : ByteArray := prog_14_method_27_code
def yX12_byteAt : MethodName := ⟨RX12, "byteAt", "(I)I"⟩
abbrev cX12_isLetter : ByteArray := prog_14_method_28_code
def yX12_isLetter : MethodName := ⟨RX12, "isLetter", "(I)Z"⟩
abbrev cX12_isFigure : ByteArray := prog_14_method_29_code
def yX12_isFigure : MethodName := ⟨RX12, "isFigure", "(I)Z"⟩
abbrev cX12_step : ByteArray := prog_14_method_30_code
def yX12_step : MethodName := ⟨RX12, "step", "()V"⟩
abbrev cX12_bad : ByteArray := prog_14_method_31_code
def yX12_bad : MethodName := ⟨RX12, "bad", "(I)V"⟩
abbrev cX12_need : ByteArray := prog_14_method_32_code
def yX12_need : MethodName := ⟨RX12, "need", "(Z)V"⟩
abbrev cX12_is : ByteArray := prog_14_method_33_code
def yX12_is : MethodName := ⟨RX12, "is", "(I)Z"⟩
abbrev cX12_word : ByteArray := prog_14_method_34_code
def yX12_word : MethodName := ⟨RX12, "word", "()J"⟩
abbrev cX12_numberIn : ByteArray := prog_14_method_35_code
def yX12_numberIn : MethodName := ⟨RX12, "numberIn", "(II)I"⟩
abbrev cX12_featureOfWord : ByteArray := prog_14_method_36_code
def yX12_featureOfWord : MethodName := ⟨RX12, "featureOfWord", "()I"⟩
abbrev cX12_readTest : ByteArray := prog_14_method_37_code
def yX12_readTest : MethodName := ⟨RX12, "readTest", "(I)V"⟩
abbrev cX12_readLine : ByteArray := prog_14_method_38_code
def yX12_readLine : MethodName := ⟨RX12, "readLine", "()V"⟩
abbrev cX12_rules : ByteArray := prog_14_method_39_code
def yX12_rules : MethodName := ⟨RX12, "rules", "()I"⟩
abbrev cX12_fault : ByteArray := prog_14_method_40_code
def yX12_fault : MethodName := ⟨RX12, "fault", "()I"⟩
abbrev cX12_rule : ByteArray := prog_14_method_41_code
def yX12_rule : MethodName := ⟨RX12, "rule", "(I)I"⟩
abbrev cX12_holding : ByteArray := prog_14_method_42_code
def yX12_holding : MethodName := ⟨RX12, "holding", "()I"⟩
abbrev cX12_setOf : ByteArray := prog_14_method_43_code
def yX12_setOf : MethodName := ⟨RX12, "setOf", "(III)I"⟩
abbrev cX12_weightOf : ByteArray := prog_14_method_44_code
def yX12_weightOf : MethodName := ⟨RX12, "weightOf", "(I)I"⟩
abbrev cX12_scoreOf : ByteArray := prog_14_method_45_code
def yX12_scoreOf : MethodName := ⟨RX12, "scoreOf", "(II)I"⟩
abbrev cX12_actBy : ByteArray := prog_14_method_46_code
def yX12_actBy : MethodName := ⟨RX12, "actBy", "(I)I"⟩
abbrev cX12_whyOf : ByteArray := prog_14_method_47_code
def yX12_whyOf : MethodName := ⟨RX12, "whyOf", "(I)I"⟩
abbrev cX12_judged : ByteArray := prog_14_method_48_code
def yX12_judged : MethodName := ⟨RX12, "judged", "(III)I"⟩
abbrev cX12_would : ByteArray := prog_14_method_49_code
def yX12_would : MethodName := ⟨RX12, "would", "(II)I"⟩
abbrev cX12_acts : ByteArray := prog_14_method_50_code
def yX12_acts : MethodName := ⟨RX12, "acts", "(I)I"⟩
abbrev cX12_verdict : ByteArray := prog_14_method_51_code
def yX12_verdict : MethodName := ⟨RX12, "verdict", "(II)I"⟩
abbrev cX12_findQueue : ByteArray := prog_14_method_52_code
def yX12_findQueue : MethodName := ⟨RX12, "findQueue", "()V"⟩
abbrev cX12_queue : ByteArray := prog_14_method_53_code
def yX12_queue : MethodName := ⟨RX12, "queue", "(I)I"⟩
abbrev cX12_cost : ByteArray := prog_14_method_54_code
def yX12_cost : MethodName := ⟨RX12, "cost", "(II)I"⟩
abbrev cX12_findScores : ByteArray := prog_14_method_55_code
def yX12_findScores : MethodName := ⟨RX12, "findScores", "()V"⟩
abbrev cX12_costOf : ByteArray := prog_14_method_56_code
def yX12_costOf : MethodName := ⟨RX12, "costOf", "(II)J"⟩
abbrev cX12_setting : ByteArray := prog_14_method_57_code
def yX12_setting : MethodName := ⟨RX12, "setting", "(II)J"⟩
abbrev cX12_bestSetting : ByteArray := prog_14_method_58_code
def yX12_bestSetting : MethodName := ⟨RX12, "bestSetting", "(I)J"⟩
abbrev cX12_findHolds : ByteArray := prog_14_method_59_code
def yX12_findHolds : MethodName := ⟨RX12, "findHolds", "()V"⟩
abbrev cX12_costOfSet : ByteArray := prog_14_method_60_code
def yX12_costOfSet : MethodName := ⟨RX12, "costOfSet", "(II)J"⟩
abbrev cX12_learnt : ByteArray := prog_14_method_61_code
def yX12_learnt : MethodName := ⟨RX12, "learnt", "(I)J"⟩
abbrev cX12_costs : ByteArray := prog_14_method_62_code
def yX12_costs : MethodName := ⟨RX12, "costs", "(II)J"⟩
abbrev cX12_waysOf : ByteArray := prog_14_method_63_code
def yX12_waysOf : MethodName := ⟨RX12, "waysOf", "(II)J"⟩
abbrev cX12_drift : ByteArray := prog_14_method_64_code
def yX12_drift : MethodName := ⟨RX12, "drift", "(IIIII)J"⟩
abbrev cX12_counted : ByteArray := prog_14_method_65_code
def yX12_counted : MethodName := ⟨RX12, "counted", "(III)I"⟩
abbrev cX12_kindOf : ByteArray := prog_14_method_66_code
def yX12_kindOf : MethodName := ⟨RX12, "kindOf", "(I)I"⟩
abbrev cX12_isOf : ByteArray := prog_14_method_67_code
def yX12_isOf : MethodName := ⟨RX12, "isOf", "(II)Z"⟩
abbrev cX12_kind : ByteArray := prog_14_method_68_code
def yX12_kind : MethodName := ⟨RX12, "kind", "(I)I"⟩
abbrev cX12_as : ByteArray := prog_14_method_69_code
def yX12_as : MethodName := ⟨RX12, "as", "(II)I"⟩
abbrev cX12_began : ByteArray := prog_14_method_70_code
def yX12_began : MethodName := ⟨RX12, "began", "(I)V"⟩
abbrev cX12_heldWorth : ByteArray := prog_14_method_71_code
def yX12_heldWorth : MethodName := ⟨RX12, "heldWorth", "(II)I"⟩
abbrev cX12_markOf : ByteArray := prog_14_method_72_code
def yX12_markOf : MethodName := ⟨RX12, "markOf", "(II)I"⟩
abbrev cX12_worthOf : ByteArray := prog_14_method_73_code
def yX12_worthOf : MethodName := ⟨RX12, "worthOf", "(II)I"⟩
abbrev cX12_ask : ByteArray := prog_14_method_74_code
def yX12_ask : MethodName := ⟨RX12, "ask", "(II)I"⟩
abbrev cX12_trace : ByteArray := prog_14_method_75_code
def yX12_trace : MethodName := ⟨RX12, "trace", "(I)I"⟩
abbrev cX12_count : ByteArray := prog_14_method_76_code
def yX12_count : MethodName := ⟨RX12, "count", "(I)I"⟩
abbrev cX12_status : ByteArray := prog_14_method_77_code
def yX12_status : MethodName := ⟨RX12, "status", "()I"⟩
def RJ6 : String := "java/lang/Integer"
def TJ6 : u_T := fun k => match k with
  | _ => ("", "", "", false)
def tyJ6 : Nat → FieldType := fun k => match k with
  | _ => .int
abbrev wsJ60 : List Cond := u_ws RJ6 TJ6 0
theorem nmJ6 : ∀ a, a < 0 → ∀ b, b < 0 → a ≠ b → (TJ6 a).2.1 ≠ (TJ6 b).2.1 := by decide +kernel
theorem tyJ6_ok : ∀ k, k < 0 → parseFieldDescriptor (TJ6 k).2.2.1 = some (tyJ6 k) := by decide +kernel
abbrev cJ6_bitCount_0f7a4 : ByteArray := prog_15_method_49_code
def yJ6_bitCount_0f7a4 : MethodName := ⟨RJ6, "bitCount", "(I)I"⟩
def RJ9 : String := "java/lang/Math"
def TJ9 : u_T := fun k => match k with
  | _ => ("", "", "", false)
def tyJ9 : Nat → FieldType := fun k => match k with
  | _ => .int
abbrev wsJ90 : List Cond := u_ws RJ9 TJ9 0
theorem nmJ9 : ∀ a, a < 0 → ∀ b, b < 0 → a ≠ b → (TJ9 a).2.1 ≠ (TJ9 b).2.1 := by decide +kernel
theorem tyJ9_ok : ∀ k, k < 0 → parseFieldDescriptor (TJ9 k).2.2.1 = some (tyJ9 k) := by decide +kernel
abbrev cJ9_abs_0f7a4 : ByteArray := prog_16_method_59_code
def yJ9_abs_0f7a4 : MethodName := ⟨RJ9, "abs", "(I)I"⟩
abbrev cJ9_max_7cf53 : ByteArray := prog_16_method_65_code
def yJ9_max_7cf53 : MethodName := ⟨RJ9, "max", "(II)I"⟩
def RJ0 : String := "java/lang/String"
def TJ0 : u_T := fun k => match k with
  | _ => ("", "", "", false)
def tyJ0 : Nat → FieldType := fun k => match k with
  | _ => .int
abbrev wsJ00 : List Cond := u_ws RJ0 TJ0 0
theorem nmJ0 : ∀ a, a < 0 → ∀ b, b < 0 → a ≠ b → (TJ0 a).2.1 ≠ (TJ0 b).2.1 := by decide +kernel
theorem tyJ0_ok : ∀ k, k < 0 → parseFieldDescriptor (TJ0 k).2.2.1 = some (tyJ0 k) := by decide +kernel
abbrev cJ0_length_8abf5 : ByteArray := prog_17_method_54_code
def yJ0_length_8abf5 : MethodName := ⟨RJ0, "length", "()I"⟩
abbrev cJ0_charAt_5068e : ByteArray := prog_17_method_56_code
def yJ0_charAt_5068e : MethodName := ⟨RJ0, "charAt", "(I)C"⟩
abbrev cJ0_coder_7d493 : ByteArray := prog_17_method_152_code
def yJ0_coder_7d493 : MethodName := ⟨RJ0, "coder", "()B"⟩
abbrev cJ0_isLatin1_aae02 : ByteArray := prog_17_method_154_code
def yJ0_isLatin1_aae02 : MethodName := ⟨RJ0, "isLatin1", "()Z"⟩
abbrev cJ0_checkIndex_df160 : ByteArray := prog_17_method_155_code
def yJ0_checkIndex_df160 : MethodName := ⟨RJ0, "checkIndex", "(II)V"⟩
def RJ1 : String := "java/lang/StringLatin1"
def TJ1 : u_T := fun k => match k with
  | _ => ("", "", "", false)
def tyJ1 : Nat → FieldType := fun k => match k with
  | _ => .int
abbrev wsJ10 : List Cond := u_ws RJ1 TJ1 0
theorem nmJ1 : ∀ a, a < 0 → ∀ b, b < 0 → a ≠ b → (TJ1 a).2.1 ≠ (TJ1 b).2.1 := by decide +kernel
theorem tyJ1_ok : ∀ k, k < 0 → parseFieldDescriptor (TJ1 k).2.2.1 = some (tyJ1 k) := by decide +kernel
abbrev cJ1_charAt_3b067 : ByteArray := prog_18_method_2_code
def yJ1_charAt_3b067 : MethodName := ⟨RJ1, "charAt", "([BI)C"⟩
def RJ2 : String := "java/lang/StringUTF16"
def TJ2 : u_T := fun k => match k with
  | _ => ("", "", "", false)
def tyJ2 : Nat → FieldType := fun k => match k with
  | _ => .int
abbrev wsJ20 : List Cond := u_ws RJ2 TJ2 0
theorem nmJ2 : ∀ a, a < 0 → ∀ b, b < 0 → a ≠ b → (TJ2 a).2.1 ≠ (TJ2 b).2.1 := by decide +kernel
theorem tyJ2_ok : ∀ k, k < 0 → parseFieldDescriptor (TJ2 k).2.2.1 = some (tyJ2 k) := by decide +kernel
abbrev cJ2_getChar_3b067 : ByteArray := prog_19_method_5_code
def yJ2_getChar_3b067 : MethodName := ⟨RJ2, "getChar", "([BI)C"⟩
abbrev cJ2_length_9d52b : ByteArray := prog_19_method_6_code
def yJ2_length_9d52b : MethodName := ⟨RJ2, "length", "([B)I"⟩
abbrev cJ2_charAt_3b067 : ByteArray := prog_19_method_83_code
def yJ2_charAt_3b067 : MethodName := ⟨RJ2, "charAt", "([BI)C"⟩
abbrev cJ2_checkIndex_2214a : ByteArray := prog_19_method_91_code
def yJ2_checkIndex_2214a : MethodName := ⟨RJ2, "checkIndex", "(I[B)V"⟩
def RJ10 : String := "java/lang/System"
def TJ10 : u_T := fun k => match k with
  | _ => ("", "", "", false)
def tyJ10 : Nat → FieldType := fun k => match k with
  | _ => .int
abbrev wsJ100 : List Cond := u_ws RJ10 TJ10 0
theorem nmJ10 : ∀ a, a < 0 → ∀ b, b < 0 → a ≠ b → (TJ10 a).2.1 ≠ (TJ10 b).2.1 := by decide +kernel
theorem tyJ10_ok : ∀ k, k < 0 → parseFieldDescriptor (TJ10 k).2.2.1 = some (tyJ10 k) := by decide +kernel
def RJ7 : String := "java/util/Arrays"
def TJ7 : u_T := fun k => match k with
  | _ => ("", "", "", false)
def tyJ7 : Nat → FieldType := fun k => match k with
  | _ => .int
abbrev wsJ70 : List Cond := u_ws RJ7 TJ7 0
theorem nmJ7 : ∀ a, a < 0 → ∀ b, b < 0 → a ≠ b → (TJ7 a).2.1 ≠ (TJ7 b).2.1 := by decide +kernel
theorem tyJ7_ok : ∀ k, k < 0 → parseFieldDescriptor (TJ7 k).2.2.1 = some (tyJ7 k) := by decide +kernel
abbrev cJ7_fill_53178 : ByteArray := prog_21_method_103_code
def yJ7_fill_53178 : MethodName := ⟨RJ7, "fill", "([II)V"⟩
def RJ3 : String := "jdk/internal/util/Preconditions"
def TJ3 : u_T := fun k => match k with
  | _ => ("", "", "", false)
def tyJ3 : Nat → FieldType := fun k => match k with
  | _ => .int
abbrev wsJ30 : List Cond := u_ws RJ3 TJ3 0
theorem nmJ3 : ∀ a, a < 0 → ∀ b, b < 0 → a ≠ b → (TJ3 a).2.1 ≠ (TJ3 b).2.1 := by decide +kernel
theorem tyJ3_ok : ∀ k, k < 0 → parseFieldDescriptor (TJ3 k).2.2.1 = some (tyJ3 k) := by decide +kernel
abbrev cJ3_checkIndex_8e157 : ByteArray := prog_22_method_11_code
def yJ3_checkIndex_8e157 : MethodName := ⟨RJ3, "checkIndex", "(IILjava/util/function/BiFunction;)I"⟩
def RL : String := "OddPaymentsLaw"
abbrev cL_law : ByteArray := code
def yL_law : MethodName := ⟨RL, "law", "([I)Z"⟩
def wsL_law_r1 : List Cond := [Cond.classLink RL 7 RX11, Cond.instantiable RX11 11, Cond.initialized RX11, Cond.classLink RL 10 RX12, Cond.instantiable RX12 47, Cond.initialized RX12, Cond.constantLong RL 62 (4294967295), Cond.methodLink RL 9 yX11_init, Cond.instanceMethod yX11_init, Cond.code yX11_init cX11_init 2 none, Cond.methodLink RX11 1 objectInit, Cond.instanceMethod objectInit, Cond.code objectInit ⟨#[0xb1]⟩ 1 none, Cond.classLink RX11 9 RX9, Cond.fieldLink RX11 11 "OddPayments" "sheets" "[LOddPayments$Sheet;", Cond.classLink RX11 15 RX3, Cond.instantiable RX3 4, Cond.initialized RX3, Cond.fieldLink RX11 18 "OddPayments" "ledger" "LOddPayments$Ledger;", Cond.classLink RX11 22 RX10, Cond.instantiable RX10 6, Cond.initialized RX10, Cond.fieldLink RX11 25 "OddPayments" "tape" "LOddPayments$Tape;", Cond.classLink RX11 29 RX6]
def wsL_law_r2 : List Cond := [Cond.instantiable RX6 7, Cond.initialized RX6, Cond.fieldLink RX11 34 "OddPayments" "reader" "LOddPayments$Reader;", Cond.classLink RX11 38 RX2, Cond.instantiable RX2 8, Cond.initialized RX2, Cond.fieldLink RX11 43 "OddPayments" "judge" "LOddPayments$Judge;", Cond.classLink RX11 47 RX5, Cond.instantiable RX5 13, Cond.initialized RX5, Cond.fieldLink RX11 52 "OddPayments" "pricer" "LOddPayments$Pricer;", Cond.classLink RX11 56 RX1, Cond.instantiable RX1 4, Cond.initialized RX1, Cond.fieldLink RX11 59 "OddPayments" "shift" "LOddPayments$Drift;", Cond.classLink RX11 63 RX0, Cond.instantiable RX0 5, Cond.initialized RX0, Cond.fieldLink RX11 66 "OddPayments" "asker" "LOddPayments$Asker;", Cond.classLink RX11 70 RX8, Cond.instantiable RX8 7, Cond.initialized RX8, Cond.fieldLink RX11 73 "OddPayments" "spare" "LOddPayments$RuleBook;", Cond.fieldLink RX11 77 "OddPayments" "latestFault" "I"]
def wsL_law_r3 : List Cond := [Cond.fieldLink RX11 81 "OddPayments" "finding" "I", Cond.instantiable RX9 4, Cond.initialized RX9, Cond.instanceMethod yX3_init, Cond.code yX3_init cX3_init 1 none, Cond.methodLink RX3 3 objectInit, Cond.classLink RX3 9 RX4, Cond.fieldLink RX3 11 "OddPayments$Ledger" "byTag" "[LOddPayments$Payment;", Cond.fieldLink RX3 17 "OddPayments$Ledger" "ordered" "[LOddPayments$Payment;", Cond.fieldLink RX3 20 "OddPayments$Ledger" "size" "I", Cond.fieldLink RX3 24 "OddPayments$Ledger" "marked" "I", Cond.instanceMethod yX10_init, Cond.code yX10_init cX10_init 1 none, Cond.methodLink RX10 1 objectInit, Cond.arrayClass .int, Cond.fieldLink RX10 9 "OddPayments$Tape" "tokens" "[I", Cond.fieldLink RX10 13 "OddPayments$Tape" "values" "[I", Cond.fieldLink RX10 16 "OddPayments$Tape" "places" "[I", Cond.fieldLink RX10 19 "OddPayments$Tape" "size" "I", Cond.arrayClass .byte, Cond.fieldLink RX10 23 "OddPayments$Tape" "bytes" "[B", Cond.fieldLink RX10 27 "OddPayments$Tape" "many" "I", Cond.methodLink RX11 31 yX6_init, Cond.instanceMethod yX6_init]
def wsL_law_r4 : List Cond := [Cond.code yX6_init cX6_init 2 none, Cond.methodLink RX6 3 objectInit, Cond.fieldLink RX6 9 "OddPayments$Reader" "wrong" "I", Cond.fieldLink RX6 15 "OddPayments$Reader" "wrongPlace" "I", Cond.fieldLink RX6 18 "OddPayments$Reader" "book" "LOddPayments$RuleBook;", Cond.fieldLink RX6 22 "OddPayments$Reader" "at" "I", Cond.fieldLink RX6 27 "OddPayments$Reader" "token" "I", Cond.fieldLink RX6 30 "OddPayments$Reader" "value" "I", Cond.fieldLink RX6 33 "OddPayments$Reader" "tape" "LOddPayments$Tape;", Cond.methodLink RX11 40 yX2_init, Cond.instanceMethod yX2_init, Cond.code yX2_init cX2_init 2 none, Cond.methodLink RX2 3 objectInit, Cond.classLink RX2 9 RX8, Cond.fieldLink RX2 12 "OddPayments$Judge" "book" "LOddPayments$RuleBook;", Cond.classLink RX2 18 RX4, Cond.fieldLink RX2 20 "OddPayments$Judge" "line" "[LOddPayments$Payment;", Cond.fieldLink RX2 24 "OddPayments$Judge" "waiting" "I", Cond.classLink RX2 28 RX7, Cond.instantiable RX7 7, Cond.initialized RX7, Cond.fieldLink RX2 31 "OddPayments$Judge" "row" "LOddPayments$Row;", Cond.fieldLink RX2 35 "OddPayments$Judge" "held" "[I", Cond.fieldLink RX2 39 "OddPayments$Judge" "scores" "[I"]
def wsL_law_r5 : List Cond := [Cond.arrayClass .long, Cond.fieldLink RX2 42 "OddPayments$Judge" "worths" "[J", Cond.fieldLink RX2 46 "OddPayments$Judge" "ledger" "LOddPayments$Ledger;", Cond.methodLink RX2 11 yX8_init, Cond.instanceMethod yX8_init, Cond.code yX8_init cX8_init 1 none, Cond.methodLink RX8 3 objectInit, Cond.fieldLink RX8 11 "OddPayments$RuleBook" "limits" "[I", Cond.fieldLink RX8 15 "OddPayments$RuleBook" "size" "I", Cond.fieldLink RX8 19 "OddPayments$RuleBook" "weights" "[I", Cond.fieldLink RX8 22 "OddPayments$RuleBook" "tests" "[I", Cond.fieldLink RX8 25 "OddPayments$RuleBook" "features" "[I", Cond.fieldLink RX8 28 "OddPayments$RuleBook" "signs" "[I", Cond.fieldLink RX8 31 "OddPayments$RuleBook" "numbers" "[I", Cond.methodLink RX8 34 yX8_clear, Cond.instanceMethod yX8_clear, Cond.selects RX8 yX8_clear yX8_clear, Cond.code yX8_clear cX8_clear 1 none, Cond.instanceMethod yX7_init, Cond.code yX7_init cX7_init 1 none, Cond.methodLink RX7 3 objectInit, Cond.fieldLink RX7 11 "OddPayments$Row" "values" "[I", Cond.fieldLink RX7 15 "OddPayments$Row" "faded" "I", Cond.fieldLink RX7 19 "OddPayments$Row" "links" "[I"]
def wsL_law_r6 : List Cond := [Cond.fieldLink RX7 22 "OddPayments$Row" "payees" "I", Cond.fieldLink RX7 25 "OddPayments$Row" "latest" "I", Cond.fieldLink RX7 28 "OddPayments$Row" "window" "I", Cond.fieldLink RX7 31 "OddPayments$Row" "decay" "I", Cond.methodLink RX2 50 yX2_forget, Cond.instanceMethod yX2_forget, Cond.selects RX2 yX2_forget yX2_forget, Cond.code yX2_forget cX2_forget 1 none, Cond.methodLink RX2 53 yJ7_fill_53178, Cond.static yJ7_fill_53178, Cond.initialized RJ7, Cond.code yJ7_fill_53178 cJ7_fill_53178 4 none, Cond.methodLink RX11 49 yX5_init, Cond.instanceMethod yX5_init, Cond.code yX5_init cX5_init 3 none, Cond.methodLink RX5 3 objectInit, Cond.fieldLink RX5 9 "OddPayments$Pricer" "blockCost" "I", Cond.fieldLink RX5 15 "OddPayments$Pricer" "lookCost" "I", Cond.fieldLink RX5 18 "OddPayments$Pricer" "bestLook" "I", Cond.fieldLink RX5 21 "OddPayments$Pricer" "bestBlock" "I", Cond.fieldLink RX5 24 "OddPayments$Pricer" "bestPrice" "J", Cond.fieldLink RX5 28 "OddPayments$Pricer" "scores" "[I", Cond.fieldLink RX5 32 "OddPayments$Pricer" "losses" "[I", Cond.fieldLink RX5 35 "OddPayments$Pricer" "rated" "I"]
def wsL_law_r7 : List Cond := [Cond.fieldLink RX5 38 "OddPayments$Pricer" "thresholds" "[I", Cond.fieldLink RX5 41 "OddPayments$Pricer" "steps" "I", Cond.fieldLink RX5 46 "OddPayments$Pricer" "sums" "[I", Cond.fieldLink RX5 49 "OddPayments$Pricer" "ledger" "LOddPayments$Ledger;", Cond.fieldLink RX5 53 "OddPayments$Pricer" "judge" "LOddPayments$Judge;", Cond.instanceMethod yX1_init, Cond.code yX1_init cX1_init 1 none, Cond.methodLink RX1 1 objectInit, Cond.fieldLink RX1 7 "OddPayments$Drift" "first" "I", Cond.fieldLink RX1 13 "OddPayments$Drift" "second" "I", Cond.fieldLink RX1 16 "OddPayments$Drift" "x" "I", Cond.fieldLink RX1 19 "OddPayments$Drift" "y" "I", Cond.instanceMethod yX0_init, Cond.code yX0_init cX0_init 1 none, Cond.methodLink RX0 1 objectInit, Cond.fieldLink RX0 9 "OddPayments$Asker" "trail" "[I", Cond.fieldLink RX0 13 "OddPayments$Asker" "steps" "I", Cond.fieldLink RX0 17 "OddPayments$Asker" "asked" "LOddPayments$Payment;", Cond.fieldLink RX0 21 "OddPayments$Asker" "own" "I", Cond.fieldLink RX0 24 "OddPayments$Asker" "score" "I", Cond.methodLink RX11 72 yX8_init, Cond.instanceMethod yX9_init, Cond.code yX9_init cX9_init 1 none, Cond.methodLink RX9 3 objectInit]
def wsL_law_r8 : List Cond := [Cond.fieldLink RX9 9 "OddPayments$Sheet" "items" "[I", Cond.fieldLink RX9 15 "OddPayments$Sheet" "there" "Z", Cond.fieldLink RX9 19 "OddPayments$Sheet" "lane" "I", Cond.fieldLink RX9 23 "OddPayments$Sheet" "size" "I", Cond.methodLink RL 12 yX12_init, Cond.instanceMethod yX12_init, Cond.code yX12_init cX12_init 1 none, Cond.methodLink RX12 1 objectInit, Cond.fieldLink RX12 7 "OddPaymentsModel" "lane" "[I", Cond.fieldLink RX12 13 "OddPaymentsModel" "many" "[I", Cond.fieldLink RX12 16 "OddPaymentsModel" "item" "[I", Cond.fieldLink RX12 19 "OddPaymentsModel" "tag" "[I", Cond.fieldLink RX12 22 "OddPaymentsModel" "time" "[I", Cond.fieldLink RX12 25 "OddPaymentsModel" "payer" "[I", Cond.fieldLink RX12 28 "OddPaymentsModel" "payee" "[I", Cond.fieldLink RX12 31 "OddPaymentsModel" "amount" "[I", Cond.fieldLink RX12 34 "OddPaymentsModel" "sortOf" "[I", Cond.fieldLink RX12 37 "OddPaymentsModel" "verdict" "[I", Cond.fieldLink RX12 40 "OddPaymentsModel" "order" "[I", Cond.fieldLink RX12 43 "OddPaymentsModel" "window" "I", Cond.fieldLink RX12 47 "OddPaymentsModel" "decay" "I", Cond.fieldLink RX12 50 "OddPaymentsModel" "look" "I", Cond.fieldLink RX12 53 "OddPaymentsModel" "block" "I", Cond.fieldLink RX12 56 "OddPaymentsModel" "feature" "[I"]
def wsL_law_r9 : List Cond := [Cond.fieldLink RX12 59 "OddPaymentsModel" "weight" "[I", Cond.fieldLink RX12 62 "OddPaymentsModel" "tests" "[I", Cond.fieldLink RX12 65 "OddPaymentsModel" "test" "[I", Cond.fieldLink RX12 68 "OddPaymentsModel" "newWeight" "[I", Cond.fieldLink RX12 71 "OddPaymentsModel" "newTests" "[I", Cond.fieldLink RX12 74 "OddPaymentsModel" "newTest" "[I", Cond.fieldLink RX12 77 "OddPaymentsModel" "limit" "[I", Cond.fieldLink RX12 80 "OddPaymentsModel" "tape" "[I", Cond.fieldLink RX12 83 "OddPaymentsModel" "score" "[I", Cond.fieldLink RX12 86 "OddPaymentsModel" "queue" "[I", Cond.fieldLink RX12 89 "OddPaymentsModel" "costBy" "[I", Cond.fieldLink RX12 92 "OddPaymentsModel" "holds" "[I", Cond.fieldLink RX12 95 "OddPaymentsModel" "ways" "[J", Cond.fieldLink RX12 99 "OddPaymentsModel" "trace" "[I", Cond.methodLink RL 13 yX11_sheet, Cond.instanceMethod yX11_sheet, Cond.selects RX11 yX11_sheet yX11_sheet, Cond.code yX11_sheet cX11_sheet 4 (some .int), Cond.constant RX11 93 (-1000001), Cond.methodLink RX11 85 yX11_isSheet, Cond.static yX11_isSheet, Cond.code yX11_isSheet cX11_isSheet 1 (some .boolean), Cond.methodLink RX11 89 yX11_within, Cond.static yX11_within]
def wsL_law_r10 : List Cond := [Cond.code yX11_within cX11_within 3 (some .boolean), Cond.methodLink RX11 94 yX11_found, Cond.instanceMethod yX11_found, Cond.selects RX11 yX11_found yX11_found, Cond.code yX11_found cX11_found 2 (some .int), Cond.constant RX11 346 (-1000010), Cond.methodLink RX11 98 yX9_lay, Cond.instanceMethod yX9_lay, Cond.selects RX9 yX9_lay yX9_lay, Cond.code yX9_lay cX9_lay 3 none, Cond.methodLink RX9 26 yJ7_fill_53178, Cond.methodLink RX11 102 yX11_unhurt, Cond.instanceMethod yX11_unhurt, Cond.selects RX11 yX11_unhurt yX11_unhurt, Cond.code yX11_unhurt cX11_unhurt 2 (some .int), Cond.methodLink RL 17 yX12_sheet, Cond.instanceMethod yX12_sheet, Cond.selects RX12 yX12_sheet yX12_sheet, Cond.code yX12_sheet cX12_sheet 5 (some .int), Cond.fieldLink RX12 102 "OddPaymentsModel" "thrown" "I", Cond.constantLong RX12 119 (2), Cond.constant RX12 121 (-1000001), Cond.fieldLink RX12 105 "OddPaymentsModel" "status" "I", Cond.methodLink RX12 115 yX12_isSheet]
def wsL_law_r11 : List Cond := [Cond.static yX12_isSheet, Cond.code yX12_isSheet cX12_isSheet 1 (some .boolean), Cond.constantLong RX12 109 (7), Cond.methodLink RX12 111 yX12_in, Cond.static yX12_in, Cond.code yX12_in cX12_in 6 (some .boolean), Cond.methodLink RX12 122 yX12_found, Cond.instanceMethod yX12_found, Cond.selects RX12 yX12_found yX12_found, Cond.code yX12_found cX12_found 2 (some .int), Cond.constant RX12 108 (-1000010), Cond.methodLink RL 18 yX11_set, Cond.instanceMethod yX11_set, Cond.selects RX11 yX11_set yX11_set, Cond.code yX11_set cX11_set 5 (some .int), Cond.fieldLink RX11 105 "OddPayments$Sheet" "there" "Z", Cond.methodLink RX11 109 yX9_has, Cond.instanceMethod yX9_has, Cond.selects RX9 yX9_has yX9_has, Cond.code yX9_has cX9_has 3 (some .boolean), Cond.methodLink RX11 113 yX9_put, Cond.instanceMethod yX9_put, Cond.selects RX9 yX9_put yX9_put, Cond.code yX9_put cX9_put 4 (some .int)]
def wsL_law_r12 : List Cond := [Cond.methodLink RX9 32 yX9_has, Cond.methodLink RL 21 yX12_set, Cond.instanceMethod yX12_set, Cond.selects RX12 yX12_set yX12_set, Cond.code yX12_set cX12_set 4 (some .int), Cond.methodLink RL 22 yX11_copy, Cond.instanceMethod yX11_copy, Cond.selects RX11 yX11_copy yX11_copy, Cond.code yX11_copy cX11_copy 8 (some .int), Cond.fieldLink RX11 117 "OddPayments$Sheet" "lane" "I", Cond.fieldLink RX11 120 "OddPayments$Sheet" "items" "[I", Cond.methodLink RX11 124 arraycopyName, Cond.native arraycopyName, Cond.static arraycopyName, Cond.initialized "java/lang/System", Cond.methodLink RL 26 yX12_copy, Cond.instanceMethod yX12_copy, Cond.selects RX12 yX12_copy yX12_copy, Cond.code yX12_copy cX12_copy 9 (some .int), Cond.methodLink RL 27 yX11_drop, Cond.instanceMethod yX11_drop, Cond.selects RX11 yX11_drop yX11_drop, Cond.code yX11_drop cX11_drop 3 (some .int), Cond.fieldLink RX11 130 "OddPayments$Sheet" "size" "I"]
def wsL_law_r13 : List Cond := [Cond.methodLink RL 31 yX12_drop, Cond.instanceMethod yX12_drop, Cond.selects RX12 yX12_drop yX12_drop, Cond.code yX12_drop cX12_drop 2 (some .int), Cond.methodLink RL 32 yX11_pay, Cond.instanceMethod yX11_pay, Cond.selects RX11 yX11_pay yX11_pay, Cond.code yX11_pay cX11_pay 7 (some .int), Cond.methodLink RX11 133 yX11_admit, Cond.instanceMethod yX11_admit, Cond.selects RX11 yX11_admit yX11_admit, Cond.code yX11_admit cX11_admit 8 (some .int), Cond.constant RX11 238 (100000), Cond.constant RX11 347 (-1000002), Cond.fieldLink RX11 333 "OddPayments$Ledger" "size" "I", Cond.constant RX11 198 (-1000003), Cond.classLink RX11 146 RX4, Cond.instantiable RX4 8, Cond.initialized RX4, Cond.fieldLink RX11 145 "OddPayments$Payment" "number" "I", Cond.methodLink RX11 141 yX3_find, Cond.instanceMethod yX3_find, Cond.selects RX3 yX3_find yX3_find, Cond.code yX3_find cX3_find 2 (some (.object "OddPayments$Payment"))]
def wsL_law_r14 : List Cond := [Cond.methodLink RX11 348 yX4_init, Cond.instanceMethod yX4_init, Cond.code yX4_init cX4_init 8 none, Cond.methodLink RX4 3 objectInit, Cond.constant RX4 9 (-1000000), Cond.fieldLink RX4 10 "OddPayments$Payment" "verdict" "I", Cond.fieldLink RX4 16 "OddPayments$Payment" "tag" "I", Cond.fieldLink RX4 19 "OddPayments$Payment" "time" "I", Cond.fieldLink RX4 22 "OddPayments$Payment" "payer" "I", Cond.fieldLink RX4 25 "OddPayments$Payment" "payee" "I", Cond.fieldLink RX4 28 "OddPayments$Payment" "amount" "I", Cond.fieldLink RX4 31 "OddPayments$Payment" "sort" "I", Cond.fieldLink RX4 34 "OddPayments$Payment" "number" "I", Cond.methodLink RX11 351 yX3_take, Cond.instanceMethod yX3_take, Cond.selects RX3 yX3_take yX3_take, Cond.code yX3_take cX3_take 3 none, Cond.fieldLink RX3 35 "OddPayments$Payment" "tag" "I", Cond.methodLink RX3 31 yX4_comesBefore, Cond.instanceMethod yX4_comesBefore, Cond.selects RX4 yX4_comesBefore yX4_comesBefore, Cond.code yX4_comesBefore cX4_comesBefore 2 (some .boolean), Cond.methodLink RX11 182 yX2_forget, Cond.methodLink RL 36 yX12_pay]
def wsL_law_r15 : List Cond := [Cond.instanceMethod yX12_pay, Cond.selects RX12 yX12_pay yX12_pay, Cond.code yX12_pay cX12_pay 7 (some .int), Cond.methodLink RX12 147 yX12_coming, Cond.instanceMethod yX12_coming, Cond.selects RX12 yX12_coming yX12_coming, Cond.code yX12_coming cX12_coming 9 (some .int), Cond.constantLong RX12 130 (999), Cond.constantLong RX12 132 (100000), Cond.constantLong RX12 134 (19), Cond.constantLong RX12 136 (3), Cond.constant RX12 126 (-1000000), Cond.constant RX12 141 (-1000002), Cond.fieldLink RX12 127 "OddPaymentsModel" "payments" "I", Cond.constant RX12 142 (-1000003), Cond.methodLink RX12 138 yX12_numberOf, Cond.instanceMethod yX12_numberOf, Cond.selects RX12 yX12_numberOf yX12_numberOf, Cond.code yX12_numberOf cX12_numberOf 4 (some .int), Cond.methodLink RX12 143 yX12_isBefore, Cond.instanceMethod yX12_isBefore, Cond.selects RX12 yX12_isBefore yX12_isBefore, Cond.code yX12_isBefore cX12_isBefore 3 (some .boolean), Cond.methodLink RL 37 yX11_batch]
def wsL_law_r16 : List Cond := [Cond.instanceMethod yX11_batch, Cond.selects RX11 yX11_batch yX11_batch, Cond.code yX11_batch cX11_batch 7 (some .int), Cond.methodLink RX11 137 yX11_admitFrom, Cond.instanceMethod yX11_admitFrom, Cond.selects RX11 yX11_admitFrom yX11_admitFrom, Cond.code yX11_admitFrom cX11_admitFrom 3 (some .int), Cond.methodLink RL 40 yX12_batch, Cond.instanceMethod yX12_batch, Cond.selects RX12 yX12_batch yX12_batch, Cond.code yX12_batch cX12_batch 7 (some .int), Cond.constantLong RX12 151 (20), Cond.methodLink RL 41 yX11_told, Cond.instanceMethod yX11_told, Cond.selects RX11 yX11_told yX11_told, Cond.code yX11_told cX11_told 4 (some .int), Cond.fieldLink RX11 150 "OddPayments$Payment" "time" "I", Cond.fieldLink RX11 153 "OddPayments$Payment" "payer" "I", Cond.fieldLink RX11 156 "OddPayments$Payment" "payee" "I", Cond.fieldLink RX11 159 "OddPayments$Payment" "amount" "I", Cond.fieldLink RX11 162 "OddPayments$Payment" "sort" "I", Cond.fieldLink RX11 165 "OddPayments$Payment" "verdict" "I", Cond.methodLink RL 45 yX12_told, Cond.instanceMethod yX12_told]
def wsL_law_r17 : List Cond := [Cond.selects RX12 yX12_told yX12_told, Cond.code yX12_told cX12_told 4 (some .int), Cond.constantLong RX12 153 (6), Cond.methodLink RL 46 yX11_order, Cond.instanceMethod yX11_order, Cond.selects RX11 yX11_order yX11_order, Cond.code yX11_order cX11_order 3 (some .int), Cond.constant RX11 171 (-1000000), Cond.fieldLink RX11 172 "OddPayments$Payment" "tag" "I", Cond.methodLink RX11 168 yX3_inOrder, Cond.instanceMethod yX3_inOrder, Cond.selects RX3 yX3_inOrder yX3_inOrder, Cond.code yX3_inOrder cX3_inOrder 2 (some (.object "OddPayments$Payment")), Cond.methodLink RL 49 yX12_order, Cond.instanceMethod yX12_order, Cond.selects RX12 yX12_order yX12_order, Cond.code yX12_order cX12_order 2 (some .int), Cond.methodLink RL 50 yX11_mark, Cond.instanceMethod yX11_mark, Cond.selects RX11 yX11_mark yX11_mark, Cond.code yX11_mark cX11_mark 3 (some .int), Cond.methodLink RX11 175 yX3_isMarked, Cond.instanceMethod yX3_isMarked, Cond.selects RX3 yX3_isMarked yX3_isMarked]
def wsL_law_r18 : List Cond := [Cond.code yX3_isMarked cX3_isMarked 2 (some .boolean), Cond.methodLink RX11 178 yX3_turnMark, Cond.instanceMethod yX3_turnMark, Cond.selects RX3 yX3_turnMark yX3_turnMark, Cond.code yX3_turnMark cX3_turnMark 2 none, Cond.methodLink RL 53 yX12_mark, Cond.instanceMethod yX12_mark, Cond.selects RX12 yX12_mark yX12_mark, Cond.code yX12_mark cX12_mark 4 (some .int), Cond.fieldLink RX12 155 "OddPaymentsModel" "marked" "I", Cond.methodLink RL 54 yX11_feature, Cond.instanceMethod yX11_feature, Cond.selects RX11 yX11_feature yX11_feature, Cond.code yX11_feature cX11_feature 5 (some .int), Cond.fieldLink RX11 191 "OddPayments$Row" "values" "[I", Cond.methodLink RX11 187 yX2_rowOf, Cond.instanceMethod yX2_rowOf, Cond.selects RX2 yX2_rowOf yX2_rowOf, Cond.code yX2_rowOf cX2_rowOf 3 (some (.object "OddPayments$Row")), Cond.methodLink RX2 59 yX7_gather, Cond.instanceMethod yX7_gather, Cond.selects RX7 yX7_gather yX7_gather, Cond.code yX7_gather cX7_gather 7 none, Cond.fieldLink RX7 38 "OddPayments$Ledger" "size" "I"]
def wsL_law_r19 : List Cond := [Cond.fieldLink RX7 47 "OddPayments$Payment" "number" "I", Cond.fieldLink RX7 56 "OddPayments$Payment" "time" "I", Cond.fieldLink RX7 69 "OddPayments$Payment" "payee" "I", Cond.fieldLink RX7 72 "OddPayments$Ledger" "marked" "I", Cond.fieldLink RX7 78 "OddPayments$Payment" "amount" "I", Cond.methodLink RX7 34 yX7_begin, Cond.instanceMethod yX7_begin, Cond.selects RX7 yX7_begin yX7_begin, Cond.code yX7_begin cX7_begin 3 none, Cond.fieldLink RX7 91 "OddPayments$Payment" "sort" "I", Cond.fieldLink RX7 94 "OddPayments$RuleBook" "limits" "[I", Cond.methodLink RX7 85 yJ7_fill_53178, Cond.methodLink RX7 43 yX3_inOrder, Cond.methodLink RX7 52 yX7_add, Cond.instanceMethod yX7_add, Cond.selects RX7 yX7_add yX7_add, Cond.code yX7_add cX7_add 4 none, Cond.fieldLink RX7 99 "OddPayments$Payment" "payer" "I", Cond.methodLink RX7 59 yX7_fade, Cond.instanceMethod yX7_fade, Cond.selects RX7 yX7_fade yX7_fade, Cond.code yX7_fade cX7_fade 6 (some .int), Cond.methodLink RX7 63 yJ6_bitCount_0f7a4, Cond.static yJ6_bitCount_0f7a4]
def wsL_law_r20 : List Cond := [Cond.initialized RJ6, Cond.code yJ6_bitCount_0f7a4 cJ6_bitCount_0f7a4 1 (some .int), Cond.constant RJ6 265 (1431655765), Cond.constant RJ6 266 (858993459), Cond.constant RJ6 267 (252645135), Cond.methodLink RX7 75 yX7_far, Cond.instanceMethod yX7_far, Cond.selects RX7 yX7_far yX7_far, Cond.code yX7_far cX7_far 5 (some .int), Cond.methodLink RX7 102 yX7_linkedTo, Cond.instanceMethod yX7_linkedTo, Cond.selects RX7 yX7_linkedTo yX7_linkedTo, Cond.code yX7_linkedTo cX7_linkedTo 4 (some .int), Cond.methodLink RX7 81 yX7_takeAmount, Cond.instanceMethod yX7_takeAmount, Cond.selects RX7 yX7_takeAmount yX7_takeAmount, Cond.code yX7_takeAmount cX7_takeAmount 3 none, Cond.methodLink RL 57 yX12_feature, Cond.instanceMethod yX12_feature, Cond.selects RX12 yX12_feature yX12_feature, Cond.code yX12_feature cX12_feature 5 (some .int), Cond.constantLong RX12 175 (9), Cond.methodLink RX12 177 yX12_features, Cond.instanceMethod yX12_features]
def wsL_law_r21 : List Cond := [Cond.selects RX12 yX12_features yX12_features, Cond.code yX12_features cX12_features 11 none, Cond.methodLink RX12 158 yX12_isAhead, Cond.instanceMethod yX12_isAhead, Cond.selects RX12 yX12_isAhead yX12_isAhead, Cond.code yX12_isAhead cX12_isAhead 4 (some .boolean), Cond.methodLink RX12 166 yX12_bits, Cond.static yX12_bits, Cond.code yX12_bits cX12_bits 3 (some .int), Cond.methodLink RX12 169 yX12_profileOf, Cond.instanceMethod yX12_profileOf, Cond.selects RX12 yX12_profileOf yX12_profileOf, Cond.code yX12_profileOf cX12_profileOf 7 (some .int), Cond.methodLink RX12 162 yX12_faded, Cond.instanceMethod yX12_faded, Cond.selects RX12 yX12_faded yX12_faded, Cond.code yX12_faded cX12_faded 6 (some .int), Cond.methodLink RX12 172 yX12_farOf, Cond.instanceMethod yX12_farOf, Cond.selects RX12 yX12_farOf yX12_farOf, Cond.code yX12_farOf cX12_farOf 7 (some .int), Cond.methodLink RL 58 yX11_profile, Cond.instanceMethod yX11_profile, Cond.selects RX11 yX11_profile yX11_profile]
def wsL_law_r22 : List Cond := [Cond.code yX11_profile cX11_profile 4 (some .int), Cond.fieldLink RX11 194 "OddPayments$Row" "faded" "I", Cond.methodLink RL 61 yX12_profile, Cond.instanceMethod yX12_profile, Cond.selects RX12 yX12_profile yX12_profile, Cond.code yX12_profile cX12_profile 4 (some .int), Cond.methodLink RL 64 yX11_feed, Cond.instanceMethod yX11_feed, Cond.selects RX11 yX11_feed yX11_feed, Cond.code yX11_feed cX11_feed 4 (some .int), Cond.fieldLink RX11 197 "OddPayments$Tape" "size" "I", Cond.methodLink RX11 199 yX10_add, Cond.instanceMethod yX10_add, Cond.selects RX10 yX10_add yX10_add, Cond.code yX10_add cX10_add 5 none, Cond.methodLink RL 68 yX12_feed, Cond.instanceMethod yX12_feed, Cond.selects RX12 yX12_feed yX12_feed, Cond.code yX12_feed cX12_feed 5 (some .int), Cond.constantLong RX12 181 (8), Cond.fieldLink RX12 183 "OddPaymentsModel" "taped" "I", Cond.constantLong RX12 186 (255), Cond.methodLink RL 69 yX11_rules, Cond.instanceMethod yX11_rules]
def wsL_law_r23 : List Cond := [Cond.selects RX11 yX11_rules yX11_rules, Cond.code yX11_rules cX11_rules 3 (some .int), Cond.fieldLink RX11 207 "OddPayments$Reader" "wrong" "I", Cond.constant RX11 210 (-1000100), Cond.fieldLink RX11 211 "OddPayments$Reader" "wrongPlace" "I", Cond.fieldLink RX11 214 "OddPayments$Judge" "book" "LOddPayments$RuleBook;", Cond.fieldLink RX11 221 "OddPayments$RuleBook" "size" "I", Cond.methodLink RX11 203 yX6_read, Cond.instanceMethod yX6_read, Cond.selects RX6 yX6_read yX6_read, Cond.code yX6_read cX6_read 3 (some .boolean), Cond.methodLink RX6 37 yX10_split, Cond.instanceMethod yX10_split, Cond.selects RX10 yX10_split yX10_split, Cond.code yX10_split cX10_split 2 none, Cond.methodLink RX10 38 Lib.Math.max.name, Cond.static Lib.Math.max.name, Cond.initialized "java/lang/Math", Cond.code Lib.Math.max.name Lib.Math.max.code 2 (some .int), Cond.methodLink RX10 30 yX10_endOf, Cond.instanceMethod yX10_endOf, Cond.selects RX10 yX10_endOf yX10_endOf, Cond.code yX10_endOf cX10_endOf 3 (some .int), Cond.methodLink RX10 48 yX10_isLetter]
def wsL_law_r24 : List Cond := [Cond.static yX10_isLetter, Cond.code yX10_isLetter cX10_isLetter 1 (some .boolean), Cond.methodLink RX10 52 yX10_isFigure, Cond.static yX10_isFigure, Cond.code yX10_isFigure cX10_isFigure 1 (some .boolean), Cond.methodLink RX10 34 yX10_takeToken, Cond.instanceMethod yX10_takeToken, Cond.selects RX10 yX10_takeToken yX10_takeToken, Cond.code yX10_takeToken cX10_takeToken 4 none, Cond.methodLink RX10 44 yX10_keep, Cond.instanceMethod yX10_keep, Cond.selects RX10 yX10_keep yX10_keep, Cond.code yX10_keep cX10_keep 4 none, Cond.methodLink RX10 55 yX10_wordAt, Cond.instanceMethod yX10_wordAt, Cond.selects RX10 yX10_wordAt yX10_wordAt, Cond.code yX10_wordAt cX10_wordAt 4 (some .int), Cond.methodLink RX10 61 yX10_isSpelt, Cond.instanceMethod yX10_isSpelt, Cond.selects RX10 yX10_isSpelt yX10_isSpelt, Cond.code yX10_isSpelt cX10_isSpelt 5 (some .boolean), Cond.methodLink RX10 67 yJ0_length_8abf5, Cond.instanceMethod yJ0_length_8abf5, Cond.selects RJ0 yJ0_length_8abf5 yJ0_length_8abf5]
def wsL_law_r25 : List Cond := [Cond.initialized RJ0, Cond.code yJ0_length_8abf5 cJ0_length_8abf5 1 (some .int), Cond.fieldLink RJ0 9 "java/lang/String" "value" "[B", Cond.methodLink RJ0 335 yJ0_coder_7d493, Cond.instanceMethod yJ0_coder_7d493, Cond.selects RJ0 yJ0_coder_7d493 yJ0_coder_7d493, Cond.code yJ0_coder_7d493 cJ0_coder_7d493 1 (some .byte), Cond.fieldLink RJ0 38 "java/lang/String" "COMPACT_STRINGS" "Z", Cond.fieldLink RJ0 15 "java/lang/String" "coder" "B", Cond.methodLink RX10 73 yJ0_charAt_5068e, Cond.instanceMethod yJ0_charAt_5068e, Cond.selects RJ0 yJ0_charAt_5068e yJ0_charAt_5068e, Cond.code yJ0_charAt_5068e cJ0_charAt_5068e 2 (some .char), Cond.methodLink RJ0 492 yJ0_isLatin1_aae02, Cond.instanceMethod yJ0_isLatin1_aae02, Cond.selects RJ0 yJ0_isLatin1_aae02 yJ0_isLatin1_aae02, Cond.code yJ0_isLatin1_aae02 cJ0_isLatin1_aae02 1 (some .boolean), Cond.methodLink RJ0 495 yJ1_charAt_3b067, Cond.static yJ1_charAt_3b067, Cond.initialized RJ1, Cond.code yJ1_charAt_3b067 cJ1_charAt_3b067 2 (some .char), Cond.methodLink RJ1 9 yJ0_checkIndex_df160, Cond.static yJ0_checkIndex_df160, Cond.code yJ0_checkIndex_df160 cJ0_checkIndex_df160 2 none]
def wsL_law_r26 : List Cond := [Cond.fieldLink RJ0 1053 "jdk/internal/util/Preconditions" "SIOOBE_FORMATTER" "Ljava/util/function/BiFunction;", Cond.methodLink RJ0 1059 yJ3_checkIndex_8e157, Cond.static yJ3_checkIndex_8e157, Cond.initialized RJ3, Cond.code yJ3_checkIndex_8e157 cJ3_checkIndex_8e157 3 (some .int), Cond.methodLink RJ0 498 yJ2_charAt_3b067, Cond.static yJ2_charAt_3b067, Cond.initialized RJ2, Cond.code yJ2_charAt_3b067 cJ2_charAt_3b067 2 (some .char), Cond.methodLink RJ2 67 yJ2_checkIndex_2214a, Cond.static yJ2_checkIndex_2214a, Cond.code yJ2_checkIndex_2214a cJ2_checkIndex_2214a 2 none, Cond.methodLink RJ2 48 yJ2_length_9d52b, Cond.static yJ2_length_9d52b, Cond.code yJ2_length_9d52b cJ2_length_9d52b 1 (some .int), Cond.methodLink RJ2 414 yJ0_checkIndex_df160, Cond.methodLink RJ2 71 yJ2_getChar_3b067, Cond.static yJ2_getChar_3b067, Cond.code yJ2_getChar_3b067 cJ2_getChar_3b067 2 (some .char), Cond.fieldLink RJ2 44 "java/lang/StringUTF16" "$assertionsDisabled" "Z", Cond.fieldLink RJ2 59 "java/lang/StringUTF16" "HI_BYTE_SHIFT" "I", Cond.fieldLink RJ2 63 "java/lang/StringUTF16" "LO_BYTE_SHIFT" "I", Cond.methodLink RX10 58 yX10_numberAt, Cond.instanceMethod yX10_numberAt]
def wsL_law_r27 : List Cond := [Cond.selects RX10 yX10_numberAt yX10_numberAt, Cond.code yX10_numberAt cX10_numberAt 5 (some .int), Cond.methodLink RX6 40 yX8_clear, Cond.methodLink RX6 45 yX6_goTo, Cond.instanceMethod yX6_goTo, Cond.selects RX6 yX6_goTo yX6_goTo, Cond.code yX6_goTo cX6_goTo 2 none, Cond.fieldLink RX6 53 "OddPayments$Tape" "tokens" "[I", Cond.fieldLink RX6 57 "OddPayments$Tape" "values" "[I", Cond.methodLink RX6 49 yX6_readStatement, Cond.instanceMethod yX6_readStatement, Cond.selects RX6 yX6_readStatement yX6_readStatement, Cond.code yX6_readStatement cX6_readStatement 1 (some .boolean), Cond.methodLink RX6 64 yX6_readLimit, Cond.instanceMethod yX6_readLimit, Cond.selects RX6 yX6_readLimit yX6_readLimit, Cond.code yX6_readLimit cX6_readLimit 3 (some .boolean), Cond.constant RX6 80 (100000), Cond.fieldLink RX6 85 "OddPayments$RuleBook" "limits" "[I", Cond.methodLink RX6 77 yX6_goOn, Cond.instanceMethod yX6_goOn, Cond.selects RX6 yX6_goOn yX6_goOn, Cond.code yX6_goOn cX6_goOn 1 none, Cond.methodLink RX6 81 yX6_hasNumber]
def wsL_law_r28 : List Cond := [Cond.instanceMethod yX6_hasNumber, Cond.selects RX6 yX6_hasNumber yX6_hasNumber, Cond.code yX6_hasNumber cX6_hasNumber 3 (some .boolean), Cond.methodLink RX6 74 yX6_fail, Cond.instanceMethod yX6_fail, Cond.selects RX6 yX6_fail yX6_fail, Cond.code yX6_fail cX6_fail 2 (some .boolean), Cond.fieldLink RX6 105 "OddPayments$Tape" "places" "[I", Cond.methodLink RX6 88 yX6_passEnd, Cond.instanceMethod yX6_passEnd, Cond.selects RX6 yX6_passEnd yX6_passEnd, Cond.code yX6_passEnd cX6_passEnd 1 (some .boolean), Cond.methodLink RX6 68 yX6_isWord, Cond.instanceMethod yX6_isWord, Cond.selects RX6 yX6_isWord yX6_isWord, Cond.code yX6_isWord cX6_isWord 2 (some .boolean), Cond.methodLink RX6 71 yX6_readRule, Cond.instanceMethod yX6_readRule, Cond.selects RX6 yX6_readRule yX6_readRule, Cond.code yX6_readRule cX6_readRule 2 (some .boolean), Cond.fieldLink RX6 91 "OddPayments$RuleBook" "size" "I", Cond.methodLink RX6 94 yX8_addRule, Cond.instanceMethod yX8_addRule, Cond.selects RX8 yX8_addRule yX8_addRule]
def wsL_law_r29 : List Cond := [Cond.code yX8_addRule cX8_addRule 2 none, Cond.methodLink RX6 97 yX6_readTest, Cond.instanceMethod yX6_readTest, Cond.selects RX6 yX6_readTest yX6_readTest, Cond.code yX6_readTest cX6_readTest 3 (some .boolean), Cond.constant RX6 100 (999999), Cond.methodLink RX6 101 yX8_addTest, Cond.instanceMethod yX8_addTest, Cond.selects RX8 yX8_addTest yX8_addTest, Cond.code yX8_addTest cX8_addTest 6 none, Cond.methodLink RX11 217 yX2_follow, Cond.instanceMethod yX2_follow, Cond.selects RX2 yX2_follow yX2_follow, Cond.code yX2_follow cX2_follow 2 none, Cond.methodLink RL 73 yX12_rules, Cond.instanceMethod yX12_rules, Cond.selects RX12 yX12_rules yX12_rules, Cond.code yX12_rules cX12_rules 3 (some .int), Cond.fieldLink RX12 188 "OddPaymentsModel" "size" "I", Cond.fieldLink RX12 191 "OddPaymentsModel" "cursor" "I", Cond.fieldLink RX12 212 "OddPaymentsModel" "fault" "I", Cond.fieldLink RX12 253 "OddPaymentsModel" "newRules" "I", Cond.fieldLink RX12 200 "OddPaymentsModel" "token" "I", Cond.fieldLink RX12 288 "OddPaymentsModel" "latest" "I"]
def wsL_law_r30 : List Cond := [Cond.constant RX12 291 (-1000100), Cond.fieldLink RX12 215 "OddPaymentsModel" "faultAt" "I", Cond.fieldLink RX12 292 "OddPaymentsModel" "rules" "I", Cond.methodLink RX12 222 yX12_step, Cond.instanceMethod yX12_step, Cond.selects RX12 yX12_step yX12_step, Cond.code yX12_step cX12_step 2 none, Cond.fieldLink RX12 197 "OddPaymentsModel" "from" "I", Cond.fieldLink RX12 209 "OddPaymentsModel" "till" "I", Cond.methodLink RX12 194 yX12_byteAt, Cond.instanceMethod yX12_byteAt, Cond.selects RX12 yX12_byteAt yX12_byteAt, Cond.code yX12_byteAt cX12_byteAt 2 (some .int), Cond.methodLink RX12 203 yX12_isLetter, Cond.static yX12_isLetter, Cond.code yX12_isLetter cX12_isLetter 1 (some .boolean), Cond.methodLink RX12 206 yX12_isFigure, Cond.static yX12_isFigure, Cond.code yX12_isFigure cX12_isFigure 1 (some .boolean), Cond.methodLink RX12 285 yX12_readLine, Cond.instanceMethod yX12_readLine, Cond.selects RX12 yX12_readLine yX12_readLine, Cond.code yX12_readLine cX12_readLine 5 none, Cond.constantLong RX12 267 (1920298085)]
def wsL_law_r31 : List Cond := [Cond.constantLong RX12 269 (131294707347319), Cond.constantLong RX12 271 (431197741433), Cond.constantLong RX12 273 (1819242347), Cond.constantLong RX12 275 (422726034283), Cond.constant RX12 277 (100000), Cond.constantLong RX12 278 (26982), Cond.constantLong RX12 283 (6385252), Cond.methodLink RX12 229 yX12_word, Cond.instanceMethod yX12_word, Cond.selects RX12 yX12_word yX12_word, Cond.code yX12_word cX12_word 4 (some .long), Cond.methodLink RX12 218 yX12_bad, Cond.instanceMethod yX12_bad, Cond.selects RX12 yX12_bad yX12_bad, Cond.code yX12_bad cX12_bad 2 none, Cond.methodLink RX12 225 yX12_need, Cond.instanceMethod yX12_need, Cond.selects RX12 yX12_need yX12_need, Cond.code yX12_need cX12_need 2 none, Cond.methodLink RX12 264 yX12_numberIn, Cond.instanceMethod yX12_numberIn, Cond.selects RX12 yX12_numberIn yX12_numberIn, Cond.code yX12_numberIn cX12_numberIn 5 (some .int), Cond.methodLink RX12 280 yX12_readTest]
def wsL_law_r32 : List Cond := [Cond.instanceMethod yX12_readTest, Cond.selects RX12 yX12_readTest yX12_readTest, Cond.code yX12_readTest cX12_readTest 5 none, Cond.constant RX12 263 (999999), Cond.methodLink RX12 256 yX12_featureOfWord, Cond.instanceMethod yX12_featureOfWord, Cond.selects RX12 yX12_featureOfWord yX12_featureOfWord, Cond.code yX12_featureOfWord cX12_featureOfWord 3 (some .int), Cond.constantLong RX12 233 (107122649296500), Cond.constantLong RX12 235 (1936683636), Cond.constantLong RX12 237 (1752135026), Cond.constantLong RX12 239 (427071729268), Cond.constantLong RX12 241 (7566701), Cond.constantLong RX12 243 (123563950826867), Cond.constantLong RX12 245 (1936024942), Cond.constantLong RX12 247 (491261290863), Cond.constantLong RX12 249 (6709618), Cond.constantLong RX12 251 (1768846447), Cond.methodLink RX12 260 yX12_is, Cond.instanceMethod yX12_is, Cond.selects RX12 yX12_is yX12_is, Cond.code yX12_is cX12_is 2 (some .boolean), Cond.methodLink RL 74 yX11_fault, Cond.instanceMethod yX11_fault]
def wsL_law_r33 : List Cond := [Cond.selects RX11 yX11_fault yX11_fault, Cond.code yX11_fault cX11_fault 1 (some .int), Cond.methodLink RL 77 yX12_fault, Cond.instanceMethod yX12_fault, Cond.selects RX12 yX12_fault yX12_fault, Cond.code yX12_fault cX12_fault 1 (some .int), Cond.methodLink RL 78 yX11_rule, Cond.instanceMethod yX11_rule, Cond.selects RX11 yX11_rule yX11_rule, Cond.code yX11_rule cX11_rule 2 (some .int), Cond.fieldLink RX11 222 "OddPayments$RuleBook" "limits" "[I", Cond.methodLink RL 81 yX12_rule, Cond.instanceMethod yX12_rule, Cond.selects RX12 yX12_rule yX12_rule, Cond.code yX12_rule cX12_rule 2 (some .int), Cond.methodLink RL 82 yX11_judged, Cond.instanceMethod yX11_judged, Cond.selects RX11 yX11_judged yX11_judged, Cond.code yX11_judged cX11_judged 5 (some .int), Cond.methodLink RX11 225 yX2_scoreOf, Cond.instanceMethod yX2_scoreOf, Cond.selects RX2 yX2_scoreOf yX2_scoreOf, Cond.code yX2_scoreOf cX2_scoreOf 3 (some .int), Cond.methodLink RX2 63 yX2_slotOf]
def wsL_law_r34 : List Cond := [Cond.instanceMethod yX2_slotOf, Cond.selects RX2 yX2_slotOf yX2_slotOf, Cond.code yX2_slotOf cX2_slotOf 4 (some .int), Cond.fieldLink RX2 71 "OddPayments$Payment" "number" "I", Cond.fieldLink RX2 78 "OddPayments$Row" "values" "[I", Cond.methodLink RX2 81 yX8_thatHold, Cond.instanceMethod yX8_thatHold, Cond.selects RX8 yX8_thatHold yX8_thatHold, Cond.code yX8_thatHold cX8_thatHold 4 (some .int), Cond.methodLink RX8 37 yX8_holds, Cond.instanceMethod yX8_holds, Cond.selects RX8 yX8_holds yX8_holds, Cond.code yX8_holds cX8_holds 7 (some .boolean), Cond.methodLink RX2 85 yX8_weigh, Cond.instanceMethod yX8_weigh, Cond.selects RX8 yX8_weigh yX8_weigh, Cond.code yX8_weigh cX8_weigh 4 (some .int), Cond.methodLink RX11 229 yX2_actOf, Cond.instanceMethod yX2_actOf, Cond.selects RX2 yX2_actOf yX2_actOf, Cond.code yX2_actOf cX2_actOf 3 (some .int), Cond.methodLink RX2 67 yX8_actAt, Cond.instanceMethod yX8_actAt, Cond.selects RX8 yX8_actAt yX8_actAt]
def wsL_law_r35 : List Cond := [Cond.code yX8_actAt cX8_actAt 2 (some .int), Cond.methodLink RX11 232 yX2_heldBy, Cond.instanceMethod yX2_heldBy, Cond.selects RX2 yX2_heldBy yX2_heldBy, Cond.code yX2_heldBy cX2_heldBy 3 (some .int), Cond.methodLink RX11 235 yX2_whyOf, Cond.instanceMethod yX2_whyOf, Cond.selects RX2 yX2_whyOf yX2_whyOf, Cond.code yX2_whyOf cX2_whyOf 4 (some .int), Cond.fieldLink RX2 102 "OddPayments$RuleBook" "limits" "[I", Cond.methodLink RX2 96 yX2_actOf, Cond.methodLink RX2 99 yX2_heldBy, Cond.methodLink RX2 105 yX8_fewest, Cond.instanceMethod yX8_fewest, Cond.selects RX8 yX8_fewest yX8_fewest, Cond.code yX8_fewest cX8_fewest 8 (some .int), Cond.methodLink RX8 45 yX8_fewestThatReach, Cond.instanceMethod yX8_fewestThatReach, Cond.selects RX8 yX8_fewestThatReach yX8_fewestThatReach, Cond.code yX8_fewestThatReach cX8_fewestThatReach 4 (some .int), Cond.methodLink RX8 49 yX8_heaviest, Cond.instanceMethod yX8_heaviest, Cond.selects RX8 yX8_heaviest yX8_heaviest, Cond.code yX8_heaviest cX8_heaviest 8 (some .int)]
def wsL_law_r36 : List Cond := [Cond.methodLink RL 85 yX12_judged, Cond.instanceMethod yX12_judged, Cond.selects RX12 yX12_judged yX12_judged, Cond.code yX12_judged cX12_judged 6 (some .int), Cond.methodLink RX12 298 yX12_setOf, Cond.instanceMethod yX12_setOf, Cond.selects RX12 yX12_setOf yX12_setOf, Cond.code yX12_setOf cX12_setOf 4 (some .int), Cond.methodLink RX12 295 yX12_holding, Cond.instanceMethod yX12_holding, Cond.selects RX12 yX12_holding yX12_holding, Cond.code yX12_holding cX12_holding 8 (some .int), Cond.methodLink RX12 302 yX12_weightOf, Cond.instanceMethod yX12_weightOf, Cond.selects RX12 yX12_weightOf yX12_weightOf, Cond.code yX12_weightOf cX12_weightOf 4 (some .int), Cond.methodLink RX12 305 yX12_actBy, Cond.instanceMethod yX12_actBy, Cond.selects RX12 yX12_actBy yX12_actBy, Cond.code yX12_actBy cX12_actBy 2 (some .int), Cond.methodLink RX12 308 yX12_whyOf, Cond.instanceMethod yX12_whyOf, Cond.selects RX12 yX12_whyOf yX12_whyOf, Cond.code yX12_whyOf cX12_whyOf 6 (some .int)]
def wsL_law_r37 : List Cond := [Cond.methodLink RL 86 yX11_would, Cond.instanceMethod yX11_would, Cond.selects RX11 yX11_would yX11_would, Cond.code yX11_would cX11_would 4 (some .int), Cond.methodLink RX11 239 yX2_actIf, Cond.instanceMethod yX2_actIf, Cond.selects RX2 yX2_actIf yX2_actIf, Cond.code yX2_actIf cX2_actIf 4 (some .int), Cond.methodLink RX2 88 yX2_rowOf, Cond.methodLink RX2 92 yX7_takeAmount, Cond.methodLink RL 89 yX12_would, Cond.instanceMethod yX12_would, Cond.selects RX12 yX12_would yX12_would, Cond.code yX12_would cX12_would 4 (some .int), Cond.methodLink RL 90 yX11_acts, Cond.instanceMethod yX11_acts, Cond.selects RX11 yX11_acts yX11_acts, Cond.code yX11_acts cX11_acts 2 (some .int), Cond.methodLink RX11 242 yX2_manyWith, Cond.instanceMethod yX2_manyWith, Cond.selects RX2 yX2_manyWith yX2_manyWith, Cond.code yX2_manyWith cX2_manyWith 5 (some .int), Cond.fieldLink RX2 112 "OddPayments$Ledger" "size" "I", Cond.methodLink RX2 117 yX3_inOrder]
def wsL_law_r38 : List Cond := [Cond.methodLink RX11 245 yX2_manyOtherThen, Cond.instanceMethod yX2_manyOtherThen, Cond.selects RX2 yX2_manyOtherThen yX2_manyOtherThen, Cond.code yX2_manyOtherThen cX2_manyOtherThen 4 (some .int), Cond.methodLink RL 93 yX12_acts, Cond.instanceMethod yX12_acts, Cond.selects RX12 yX12_acts yX12_acts, Cond.code yX12_acts cX12_acts 5 (some .int), Cond.methodLink RX12 311 yX12_scoreOf, Cond.instanceMethod yX12_scoreOf, Cond.selects RX12 yX12_scoreOf yX12_scoreOf, Cond.code yX12_scoreOf cX12_scoreOf 3 (some .int), Cond.methodLink RL 94 yX11_verdict, Cond.instanceMethod yX11_verdict, Cond.selects RX11 yX11_verdict yX11_verdict, Cond.code yX11_verdict cX11_verdict 5 (some .int), Cond.methodLink RL 97 yX12_verdict, Cond.instanceMethod yX12_verdict, Cond.selects RX12 yX12_verdict yX12_verdict, Cond.code yX12_verdict cX12_verdict 5 (some .int), Cond.methodLink RL 98 yX11_queue, Cond.instanceMethod yX11_queue, Cond.selects RX11 yX11_queue yX11_queue, Cond.code yX11_queue cX11_queue 2 (some .int)]
def wsL_law_r39 : List Cond := [Cond.fieldLink RX11 252 "OddPayments$Judge" "waiting" "I", Cond.fieldLink RX11 255 "OddPayments$Judge" "line" "[LOddPayments$Payment;", Cond.methodLink RX11 249 yX2_lineUp, Cond.instanceMethod yX2_lineUp, Cond.selects RX2 yX2_lineUp yX2_lineUp, Cond.code yX2_lineUp cX2_lineUp 3 none, Cond.fieldLink RX2 109 "OddPayments$Payment" "verdict" "I", Cond.constant RX2 121 (-1000000), Cond.fieldLink RX2 122 "OddPayments$Payment" "amount" "I", Cond.methodLink RX2 125 yX2_scoreOf, Cond.methodLink RX2 128 yX2_queueIn, Cond.instanceMethod yX2_queueIn, Cond.selects RX2 yX2_queueIn yX2_queueIn, Cond.code yX2_queueIn cX2_queueIn 5 none, Cond.methodLink RL 101 yX12_queue, Cond.instanceMethod yX12_queue, Cond.selects RX12 yX12_queue yX12_queue, Cond.code yX12_queue cX12_queue 2 (some .int), Cond.fieldLink RX12 314 "OddPaymentsModel" "queued" "I", Cond.methodLink RX12 317 yX12_findQueue, Cond.instanceMethod yX12_findQueue, Cond.selects RX12 yX12_findQueue yX12_findQueue, Cond.code yX12_findQueue cX12_findQueue 4 none, Cond.methodLink RL 102 yX11_cost]
def wsL_law_r40 : List Cond := [Cond.instanceMethod yX11_cost, Cond.selects RX11 yX11_cost yX11_cost, Cond.code yX11_cost cX11_cost 4 (some .int), Cond.fieldLink RX11 259 "OddPayments$Pricer" "blockCost" "I", Cond.fieldLink RX11 262 "OddPayments$Pricer" "lookCost" "I", Cond.methodLink RL 105 yX12_cost, Cond.instanceMethod yX12_cost, Cond.selects RX12 yX12_cost yX12_cost, Cond.code yX12_cost cX12_cost 4 (some .int), Cond.methodLink RL 106 yX11_setting, Cond.instanceMethod yX11_setting, Cond.selects RX11 yX11_setting yX11_setting, Cond.code yX11_setting cX11_setting 3 (some .long), Cond.constantLong RX11 265 (-1000001), Cond.methodLink RX11 267 yX5_priceOf, Cond.instanceMethod yX5_priceOf, Cond.selects RX5 yX5_priceOf yX5_priceOf, Cond.code yX5_priceOf cX5_priceOf 3 (some .long), Cond.methodLink RX5 57 yX5_rate, Cond.instanceMethod yX5_rate, Cond.selects RX5 yX5_rate yX5_rate, Cond.code yX5_rate cX5_rate 3 none, Cond.fieldLink RX5 74 "OddPayments$Ledger" "size" "I", Cond.fieldLink RX5 83 "OddPayments$Payment" "verdict" "I"]
def wsL_law_r41 : List Cond := [Cond.constant RX5 88 (-1000000), Cond.fieldLink RX5 95 "OddPayments$Payment" "amount" "I", Cond.methodLink RX5 79 yX3_inOrder, Cond.methodLink RX5 89 yX2_scoreOf, Cond.methodLink RX5 60 yX5_lookPart, Cond.instanceMethod yX5_lookPart, Cond.selects RX5 yX5_lookPart yX5_lookPart, Cond.code yX5_lookPart cX5_lookPart 5 (some .long), Cond.methodLink RX5 64 yX5_blockPart, Cond.instanceMethod yX5_blockPart, Cond.selects RX5 yX5_blockPart yX5_blockPart, Cond.code yX5_blockPart cX5_blockPart 5 (some .long), Cond.methodLink RL 110 yX12_setting, Cond.instanceMethod yX12_setting, Cond.selects RX12 yX12_setting yX12_setting, Cond.code yX12_setting cX12_setting 3 (some .long), Cond.constantLong RX12 320 (20000), Cond.constantLong RX12 322 (-1000001), Cond.methodLink RX12 324 yX12_findScores, Cond.instanceMethod yX12_findScores, Cond.selects RX12 yX12_findScores yX12_findScores, Cond.code yX12_findScores cX12_findScores 2 none, Cond.methodLink RX12 327 yX12_costOf, Cond.instanceMethod yX12_costOf]
def wsL_law_r42 : List Cond := [Cond.selects RX12 yX12_costOf yX12_costOf, Cond.code yX12_costOf cX12_costOf 6 (some .long), Cond.methodLink RL 111 yX11_bestSetting, Cond.instanceMethod yX11_bestSetting, Cond.selects RX11 yX11_bestSetting yX11_bestSetting, Cond.code yX11_bestSetting cX11_bestSetting 2 (some .long), Cond.fieldLink RX11 274 "OddPayments$Pricer" "bestPrice" "J", Cond.fieldLink RX11 278 "OddPayments$Pricer" "bestLook" "I", Cond.fieldLink RX11 281 "OddPayments$Pricer" "bestBlock" "I", Cond.methodLink RX11 271 yX5_findBest, Cond.instanceMethod yX5_findBest, Cond.selects RX5 yX5_findBest yX5_findBest, Cond.code yX5_findBest cX5_findBest 10 none, Cond.constantLong RX5 72 (9223372036854775807), Cond.methodLink RX5 67 yX5_findThresholds, Cond.instanceMethod yX5_findThresholds, Cond.selects RX5 yX5_findThresholds yX5_findThresholds, Cond.code yX5_findThresholds cX5_findThresholds 2 none, Cond.methodLink RX5 98 yX5_addThreshold, Cond.instanceMethod yX5_addThreshold, Cond.selects RX5 yX5_addThreshold yX5_addThreshold, Cond.code yX5_addThreshold cX5_addThreshold 4 none, Cond.methodLink RX5 102 arraycopyName, Cond.methodLink RL 115 yX12_bestSetting]
def wsL_law_r43 : List Cond := [Cond.instanceMethod yX12_bestSetting, Cond.selects RX12 yX12_bestSetting yX12_bestSetting, Cond.code yX12_bestSetting cX12_bestSetting 13 (some .long), Cond.methodLink RL 116 yX11_learnt, Cond.instanceMethod yX11_learnt, Cond.selects RX11 yX11_learnt yX11_learnt, Cond.code yX11_learnt cX11_learnt 2 (some .long), Cond.methodLink RX11 284 yX5_learn, Cond.instanceMethod yX5_learn, Cond.selects RX5 yX5_learn yX5_learn, Cond.code yX5_learn cX5_learn 5 (some .int), Cond.fieldLink RX5 117 "OddPayments$Judge" "book" "LOddPayments$RuleBook;", Cond.methodLink RX5 114 yX5_sumUp, Cond.instanceMethod yX5_sumUp, Cond.selects RX5 yX5_sumUp yX5_sumUp, Cond.code yX5_sumUp cX5_sumUp 4 none, Cond.fieldLink RX5 108 "OddPayments$Payment" "tag" "I", Cond.fieldLink RX5 137 "OddPayments$RuleBook" "size" "I", Cond.methodLink RX5 121 yX8_allRules, Cond.instanceMethod yX8_allRules, Cond.selects RX8 yX8_allRules yX8_allRules, Cond.code yX8_allRules cX8_allRules 1 (some .int), Cond.methodLink RX5 131 yJ7_fill_53178, Cond.methodLink RX5 111 yX2_heldBy]
def wsL_law_r44 : List Cond := [Cond.methodLink RX5 125 yJ6_bitCount_0f7a4, Cond.methodLink RX11 287 yX5_priceOfSet, Cond.instanceMethod yX5_priceOfSet, Cond.selects RX5 yX5_priceOfSet yX5_priceOfSet, Cond.code yX5_priceOfSet cX5_priceOfSet 8 (some .long), Cond.methodLink RX11 290 yX8_allRules, Cond.methodLink RL 119 yX12_learnt, Cond.instanceMethod yX12_learnt, Cond.selects RX12 yX12_learnt yX12_learnt, Cond.code yX12_learnt cX12_learnt 8 (some .long), Cond.methodLink RX12 331 yX12_findHolds, Cond.instanceMethod yX12_findHolds, Cond.selects RX12 yX12_findHolds yX12_findHolds, Cond.code yX12_findHolds cX12_findHolds 2 none, Cond.methodLink RX12 334 yX12_costOfSet, Cond.instanceMethod yX12_costOfSet, Cond.selects RX12 yX12_costOfSet yX12_costOfSet, Cond.code yX12_costOfSet cX12_costOfSet 7 (some .long), Cond.methodLink RL 120 yX11_costs, Cond.instanceMethod yX11_costs, Cond.selects RX11 yX11_costs yX11_costs, Cond.code yX11_costs cX11_costs 3 (some .long), Cond.methodLink RL 123 yX12_costs, Cond.instanceMethod yX12_costs]
def wsL_law_r45 : List Cond := [Cond.selects RX12 yX12_costs yX12_costs, Cond.code yX12_costs cX12_costs 3 (some .long), Cond.methodLink RL 124 yX11_drift, Cond.instanceMethod yX11_drift, Cond.selects RX11 yX11_drift yX11_drift, Cond.code yX11_drift cX11_drift 6 (some .long), Cond.fieldLink RX11 300 "OddPayments$Drift" "first" "I", Cond.fieldLink RX11 303 "OddPayments$Drift" "second" "I", Cond.constantLong RX11 306 (-1000003), Cond.methodLink RX11 293 yX11_areBounds, Cond.static yX11_areBounds, Cond.code yX11_areBounds cX11_areBounds 2 (some .boolean), Cond.constant RX11 345 (200000), Cond.methodLink RX11 296 yX1_tally, Cond.instanceMethod yX1_tally, Cond.selects RX1 yX1_tally yX1_tally, Cond.code yX1_tally cX1_tally 9 none, Cond.fieldLink RX1 22 "OddPayments$Ledger" "size" "I", Cond.fieldLink RX1 31 "OddPayments$Payment" "time" "I", Cond.fieldLink RX1 36 "OddPayments$Payment" "sort" "I", Cond.methodLink RX1 27 yX3_inOrder, Cond.methodLink RX11 308 yX1_tell, Cond.instanceMethod yX1_tell, Cond.selects RX1 yX1_tell yX1_tell]
def wsL_law_r46 : List Cond := [Cond.code yX1_tell cX1_tell 2 (some .long), Cond.methodLink RX1 39 yX1_waysAsFar, Cond.instanceMethod yX1_waysAsFar, Cond.selects RX1 yX1_waysAsFar yX1_waysAsFar, Cond.code yX1_waysAsFar cX1_waysAsFar 7 (some .long), Cond.methodLink RX1 47 yX1_apart, Cond.instanceMethod yX1_apart, Cond.selects RX1 yX1_apart yX1_apart, Cond.code yX1_apart cX1_apart 3 (some .int), Cond.methodLink RX1 51 Lib.Math.abs.name, Cond.static Lib.Math.abs.name, Cond.code Lib.Math.abs.name Lib.Math.abs.code 1 (some .int), Cond.methodLink RX1 43 yX1_choose, Cond.static yX1_choose, Cond.code yX1_choose cX1_choose 5 (some .long), Cond.methodLink RL 128 yX12_drift, Cond.instanceMethod yX12_drift, Cond.selects RX12 yX12_drift yX12_drift, Cond.code yX12_drift cX12_drift 16 (some .long), Cond.constantLong RX12 337 (200000), Cond.constantLong RX12 339 (5), Cond.constantLong RX12 341 (-1000003), Cond.methodLink RX12 343 yX12_waysOf, Cond.instanceMethod yX12_waysOf]
def wsL_law_r47 : List Cond := [Cond.selects RX12 yX12_waysOf yX12_waysOf, Cond.code yX12_waysOf cX12_waysOf 3 (some .long), Cond.methodLink RL 129 yX11_counted, Cond.instanceMethod yX11_counted, Cond.selects RX11 yX11_counted yX11_counted, Cond.code yX11_counted cX11_counted 5 (some .int), Cond.methodLink RX11 312 yX3_manyBetween, Cond.instanceMethod yX3_manyBetween, Cond.selects RX3 yX3_manyBetween yX3_manyBetween, Cond.code yX3_manyBetween cX3_manyBetween 7 (some .int), Cond.fieldLink RX3 41 "OddPayments$Payment" "payer" "I", Cond.fieldLink RX3 44 "OddPayments$Payment" "time" "I", Cond.methodLink RL 132 yX12_counted, Cond.instanceMethod yX12_counted, Cond.selects RX12 yX12_counted yX12_counted, Cond.code yX12_counted cX12_counted 6 (some .int), Cond.methodLink RL 133 yX11_kind, Cond.instanceMethod yX11_kind, Cond.selects RX11 yX11_kind yX11_kind, Cond.code yX11_kind cX11_kind 3 (some .int), Cond.methodLink RX11 316 yX2_kindOf, Cond.instanceMethod yX2_kindOf, Cond.selects RX2 yX2_kindOf yX2_kindOf, Cond.code yX2_kindOf cX2_kindOf 3 (some .int)]
def wsL_law_r48 : List Cond := [Cond.methodLink RL 136 yX12_kind, Cond.instanceMethod yX12_kind, Cond.selects RX12 yX12_kind yX12_kind, Cond.code yX12_kind cX12_kind 3 (some .int), Cond.methodLink RX12 346 yX12_kindOf, Cond.instanceMethod yX12_kindOf, Cond.selects RX12 yX12_kindOf yX12_kindOf, Cond.code yX12_kindOf cX12_kindOf 3 (some .int), Cond.methodLink RL 137 yX11_as, Cond.instanceMethod yX11_as, Cond.selects RX11 yX11_as yX11_as, Cond.code yX11_as cX11_as 6 (some .int), Cond.methodLink RL 140 yX12_as, Cond.instanceMethod yX12_as, Cond.selects RX12 yX12_as yX12_as, Cond.code yX12_as cX12_as 4 (some .int), Cond.methodLink RX12 349 yX12_isOf, Cond.static yX12_isOf, Cond.code yX12_isOf cX12_isOf 2 (some .boolean), Cond.methodLink RL 141 yX11_ask, Cond.instanceMethod yX11_ask, Cond.selects RX11 yX11_ask yX11_ask, Cond.code yX11_ask cX11_ask 4 (some .int), Cond.methodLink RX11 320 yX0_answer]
def wsL_law_r49 : List Cond := [Cond.instanceMethod yX0_answer, Cond.selects RX0 yX0_answer yX0_answer, Cond.code yX0_answer cX0_answer 5 (some .int), Cond.methodLink RX0 27 yX0_body, Cond.instanceMethod yX0_body, Cond.selects RX0 yX0_body yX0_body, Cond.code yX0_body cX0_body 3 (some .int), Cond.fieldLink RX0 31 "OddPayments$Payment" "amount" "I", Cond.fieldLink RX0 36 "OddPayments$Payment" "sort" "I", Cond.fieldLink RX0 39 "OddPayments$Payment" "payer" "I", Cond.methodLink RL 144 yX12_ask, Cond.instanceMethod yX12_ask, Cond.selects RX12 yX12_ask yX12_ask, Cond.code yX12_ask cX12_ask 5 (some .int), Cond.fieldLink RX12 352 "OddPaymentsModel" "traced" "I", Cond.methodLink RX12 364 yX12_worthOf, Cond.instanceMethod yX12_worthOf, Cond.selects RX12 yX12_worthOf yX12_worthOf, Cond.code yX12_worthOf cX12_worthOf 3 (some .int), Cond.methodLink RX12 358 yX12_heldWorth, Cond.instanceMethod yX12_heldWorth, Cond.selects RX12 yX12_heldWorth yX12_heldWorth, Cond.code yX12_heldWorth cX12_heldWorth 4 (some .int), Cond.methodLink RX12 355 yX12_began]
def wsL_law_r50 : List Cond := [Cond.instanceMethod yX12_began, Cond.selects RX12 yX12_began yX12_began, Cond.code yX12_began cX12_began 2 none, Cond.methodLink RX12 361 yX12_markOf, Cond.instanceMethod yX12_markOf, Cond.selects RX12 yX12_markOf yX12_markOf, Cond.code yX12_markOf cX12_markOf 4 (some .int), Cond.methodLink RL 145 yX11_trace, Cond.instanceMethod yX11_trace, Cond.selects RX11 yX11_trace yX11_trace, Cond.code yX11_trace cX11_trace 2 (some .int), Cond.fieldLink RX11 324 "OddPayments$Asker" "steps" "I", Cond.fieldLink RX11 327 "OddPayments$Asker" "trail" "[I", Cond.methodLink RL 148 yX12_trace, Cond.instanceMethod yX12_trace, Cond.selects RX12 yX12_trace yX12_trace, Cond.code yX12_trace cX12_trace 2 (some .int), Cond.methodLink RL 149 yX11_count, Cond.instanceMethod yX11_count, Cond.selects RX11 yX11_count yX11_count, Cond.code yX11_count cX11_count 2 (some .int), Cond.fieldLink RX11 337 "OddPayments$Ledger" "marked" "I", Cond.methodLink RX11 330 yX11_sheetsThere, Cond.instanceMethod yX11_sheetsThere]
def wsL_law_r51 : List Cond := [Cond.selects RX11 yX11_sheetsThere yX11_sheetsThere, Cond.code yX11_sheetsThere cX11_sheetsThere 3 (some .int), Cond.methodLink RX11 334 yX3_manyJudged, Cond.instanceMethod yX3_manyJudged, Cond.selects RX3 yX3_manyJudged yX3_manyJudged, Cond.code yX3_manyJudged cX3_manyJudged 4 (some .int), Cond.fieldLink RX3 38 "OddPayments$Payment" "verdict" "I", Cond.methodLink RX11 340 yJ6_bitCount_0f7a4, Cond.methodLink RL 152 yX12_count, Cond.instanceMethod yX12_count, Cond.selects RX12 yX12_count yX12_count, Cond.code yX12_count cX12_count 4 (some .int), Cond.methodLink RL 153 yX11_status, Cond.instanceMethod yX11_status, Cond.selects RX11 yX11_status yX11_status, Cond.code yX11_status cX11_status 1 (some .int), Cond.methodLink RL 156 yX12_status, Cond.instanceMethod yX12_status, Cond.selects RX12 yX12_status yX12_status, Cond.code yX12_status cX12_status 1 (some .int)]
def wsL_law : List Cond := (wsL_law_r1 ++ (wsL_law_r2 ++ (wsL_law_r3 ++ (wsL_law_r4 ++ (wsL_law_r5 ++ (wsL_law_r6 ++ (wsL_law_r7 ++ (wsL_law_r8 ++ (wsL_law_r9 ++ (wsL_law_r10 ++ (wsL_law_r11 ++ (wsL_law_r12 ++ (wsL_law_r13 ++ (wsL_law_r14 ++ (wsL_law_r15 ++ (wsL_law_r16 ++ (wsL_law_r17 ++ (wsL_law_r18 ++ (wsL_law_r19 ++ (wsL_law_r20 ++ (wsL_law_r21 ++ (wsL_law_r22 ++ (wsL_law_r23 ++ (wsL_law_r24 ++ (wsL_law_r25 ++ (wsL_law_r26 ++ (wsL_law_r27 ++ (wsL_law_r28 ++ (wsL_law_r29 ++ (wsL_law_r30 ++ (wsL_law_r31 ++ (wsL_law_r32 ++ (wsL_law_r33 ++ (wsL_law_r34 ++ (wsL_law_r35 ++ (wsL_law_r36 ++ (wsL_law_r37 ++ (wsL_law_r38 ++ (wsL_law_r39 ++ (wsL_law_r40 ++ (wsL_law_r41 ++ (wsL_law_r42 ++ (wsL_law_r43 ++ (wsL_law_r44 ++ (wsL_law_r45 ++ (wsL_law_r46 ++ (wsL_law_r47 ++ (wsL_law_r48 ++ (wsL_law_r49 ++ (wsL_law_r50 ++ wsL_law_r51)))))))))))))))))))))))))))))))))))))))))))))))))) ++ wsX110 ++ wsX120 ++ wsX30 ++ wsX100 ++ wsX60 ++ wsX20 ++ wsX50 ++ wsX10 ++ wsX00 ++ wsX80 ++ wsX90 ++ wsX70 ++ wsX40 ++ ([] : List Cond)
abbrev vwCl : List vw_C := [(RX0, TX0, 5), (RX1, TX1, 4), (RX2, TX2, 8), (RX3, TX3, 4), (RX4, TX4, 8), (RX5, TX5, 13), (RX6, TX6, 7), (RX7, TX7, 7), (RX8, TX8, 7), (RX9, TX9, 4), (RX10, TX10, 6), (RX11, TX11, 11), (RX12, TX12, 47)]
end
section
theorem wG_r1 : GoodIn lw_tbl wsL_law_r1 := goodIn_r _ [98, 99, 77, 1104, 1105, 89, 1587, 100, 101, 102, 103, 104, 105, 106, 431, 108, 109, 78, 432, 136, 137, 79, 433, 167] (by decide +kernel) (by decide +kernel)
theorem wG_r2 : GoodIn lw_tbl wsL_law_r2 := goodIn_r _ [168, 80, 434, 197, 198, 81, 435, 311, 312, 85, 436, 362, 363, 86, 437, 383, 384, 87, 438, 407, 204, 82, 439, 440] (by decide +kernel) (by decide +kernel)
theorem wG_r3 : GoodIn lw_tbl wsL_law_r3 := goodIn_r _ [441, 409, 88, 111, 112, 113, 114, 116, 117, 118, 124, 139, 140, 141, 165, 142, 144, 146, 148, 166, 150, 151, 169, 170] (by decide +kernel) (by decide +kernel)
theorem wG_r4 : GoodIn lw_tbl wsL_law_r4 := goodIn_r _ [171, 172, 173, 175, 178, 179, 180, 181, 177, 199, 200, 201, 202, 203, 281, 242, 284, 286, 243, 244, 83, 289, 290, 291] (by decide +kernel) (by decide +kernel)
theorem wG_r5 : GoodIn lw_tbl wsL_law_r5 := goodIn_r _ [310, 292, 288, 205, 206, 207, 208, 213, 218, 222, 223, 224, 225, 226, 209, 210, 211, 212, 246, 247, 248, 249, 252, 254] (by decide +kernel) (by decide +kernel)
theorem wG_r6 : GoodIn lw_tbl wsL_law_r6 := goodIn_r _ [255, 256, 257, 258, 274, 275, 276, 277, 278, 279, 84, 280, 313, 314, 315, 316, 317, 319, 321, 323, 325, 329, 330, 331] (by decide +kernel) (by decide +kernel)
theorem wG_r7 : GoodIn lw_tbl wsL_law_r7 := goodIn_r _ [332, 333, 334, 327, 328, 365, 366, 367, 368, 370, 372, 373, 386, 387, 388, 389, 391, 393, 394, 395, 408, 411, 412, 413] (by decide +kernel) (by decide +kernel)
theorem wG_r8 : GoodIn lw_tbl wsL_law_r8 := goodIn_r _ [414, 416, 418, 420, 1106, 1107, 1108, 1109, 1112, 1113, 1114, 1116, 1117, 1118, 1119, 1120, 1121, 1122, 1123, 1125, 1126, 1127, 1128, 1129] (by decide +kernel) (by decide +kernel)
theorem wG_r9 : GoodIn lw_tbl wsL_law_r9 := goodIn_r _ [1131, 1132, 1133, 1135, 1136, 1137, 1138, 1139, 1149, 1151, 1152, 1153, 1154, 1155, 465, 466, 467, 468, 475, 469, 470, 471, 472, 473] (by decide +kernel) (by decide +kernel)
theorem wG_r10 : GoodIn lw_tbl wsL_law_r10 := goodIn_r _ [474, 476, 478, 0, 479, 480, 481, 482, 483, 484, 485, 486, 488, 1, 489, 1252, 1253, 1254, 1255, 1110, 1263, 1264, 1111, 1256] (by decide +kernel) (by decide +kernel)
theorem wG_r11 : GoodIn lw_tbl wsL_law_r11 := goodIn_r _ [1257, 1258, 1259, 1260, 1261, 1262, 1265, 1267, 40, 1268, 1269, 490, 491, 492, 493, 417, 494, 495, 496, 497, 498, 499, 500, 501] (by decide +kernel) (by decide +kernel)
theorem wG_r12 : GoodIn lw_tbl wsL_law_r12 := goodIn_r _ [502, 1270, 1271, 1272, 1273, 503, 504, 505, 506, 419, 415, 507, 509, 508, 90, 1274, 1275, 1276, 1277, 510, 511, 512, 513, 421] (by decide +kernel) (by decide +kernel)
theorem wG_r13 : GoodIn lw_tbl wsL_law_r13 := goodIn_r _ [1278, 1279, 1280, 1281, 514, 515, 516, 517, 518, 520, 2, 521, 522, 528, 123, 529, 530, 531, 91, 568, 523, 524, 525, 526] (by decide +kernel) (by decide +kernel)
theorem wG_r14 : GoodIn lw_tbl wsL_law_r14 := goodIn_r _ [532, 533, 534, 535, 536, 569, 537, 541, 546, 551, 554, 560, 565, 591, 592, 593, 594, 538, 595, 596, 597, 598, 599, 1282] (by decide +kernel) (by decide +kernel)
theorem wG_r15 : GoodIn lw_tbl wsL_law_r15 := goodIn_r _ [1283, 1284, 1285, 1286, 1288, 41, 1289, 1290, 1291, 1292, 1293, 1298, 1299, 1115, 1300, 1294, 1296, 42, 1297, 1301, 1303, 43, 1304, 600] (by decide +kernel) (by decide +kernel)
theorem wG_r16 : GoodIn lw_tbl wsL_law_r16 := goodIn_r _ [601, 602, 603, 604, 606, 3, 607, 1305, 1306, 1307, 1308, 1309, 608, 609, 610, 611, 545, 550, 553, 558, 564, 572, 1310, 1311] (by decide +kernel) (by decide +kernel)
theorem wG_r17 : GoodIn lw_tbl wsL_law_r17 := goodIn_r _ [1312, 1313, 1314, 612, 613, 614, 615, 620, 539, 616, 617, 618, 619, 1315, 1316, 1317, 1318, 621, 622, 623, 624, 625, 626, 627] (by decide +kernel) (by decide +kernel)
theorem wG_r18 : GoodIn lw_tbl wsL_law_r18 := goodIn_r _ [628, 629, 630, 631, 632, 1319, 1320, 1321, 1322, 1124, 633, 634, 635, 636, 251, 637, 638, 639, 640, 641, 642, 643, 644, 119] (by decide +kernel) (by decide +kernel)
theorem wG_r19 : GoodIn lw_tbl wsL_law_r19 := goodIn_r _ [566, 543, 552, 125, 555, 645, 647, 4, 648, 563, 214, 649, 650, 651, 653, 5, 654, 548, 655, 657, 6, 658, 659, 660] (by decide +kernel) (by decide +kernel)
theorem wG_r20 : GoodIn lw_tbl wsL_law_r20 := goodIn_r _ [92, 661, 662, 663, 664, 665, 667, 7, 668, 669, 671, 8, 672, 673, 674, 675, 676, 1323, 1324, 1325, 1326, 1327, 1328, 1330] (by decide +kernel) (by decide +kernel)
theorem wG_r21 : GoodIn lw_tbl wsL_law_r21 := goodIn_r _ [44, 1331, 1332, 1334, 45, 1335, 1336, 1337, 1338, 1339, 1341, 46, 1342, 1343, 1345, 47, 1346, 1347, 1349, 48, 1350, 677, 678, 679] (by decide +kernel) (by decide +kernel)
theorem wG_r22 : GoodIn lw_tbl wsL_law_r22 := goodIn_r _ [680, 253, 1351, 1352, 1353, 1354, 681, 682, 683, 684, 149, 685, 686, 687, 688, 1355, 1356, 1357, 1358, 1359, 1140, 1360, 689, 690] (by decide +kernel) (by decide +kernel)
theorem wG_r23 : GoodIn lw_tbl wsL_law_r23 := goodIn_r _ [691, 692, 174, 835, 176, 283, 221, 693, 694, 695, 696, 697, 698, 699, 700, 711, 712, 93, 713, 701, 703, 9, 704, 705] (by decide +kernel) (by decide +kernel)
theorem wG_r24 : GoodIn lw_tbl wsL_law_r24 := goodIn_r _ [706, 707, 708, 709, 710, 714, 716, 10, 717, 718, 720, 11, 721, 722, 724, 12, 725, 726, 728, 13, 729, 731, 732, 733] (by decide +kernel) (by decide +kernel)
theorem wG_r25 : GoodIn lw_tbl wsL_law_r25 := goodIn_r _ [94, 734, 1588, 735, 736, 737, 738, 739, 1589, 741, 742, 743, 744, 745, 746, 747, 748, 749, 750, 95, 751, 752, 753, 754] (by decide +kernel) (by decide +kernel)
theorem wG_r26 : GoodIn lw_tbl wsL_law_r26 := goodIn_r _ [755, 757, 758, 96, 759, 760, 761, 97, 762, 763, 764, 765, 766, 767, 768, 769, 770, 771, 772, 773, 775, 777, 779, 781] (by decide +kernel) (by decide +kernel)
theorem wG_r27 : GoodIn lw_tbl wsL_law_r27 := goodIn_r _ [14, 782, 783, 784, 786, 15, 787, 143, 145, 788, 790, 16, 791, 793, 795, 17, 796, 801, 215, 797, 799, 18, 800, 802] (by decide +kernel) (by decide +kernel)
theorem wG_r28 : GoodIn lw_tbl wsL_law_r28 := goodIn_r _ [804, 19, 805, 806, 808, 20, 809, 147, 810, 812, 21, 813, 814, 816, 22, 817, 818, 820, 23, 821, 219, 822, 823, 824] (by decide +kernel) (by decide +kernel)
theorem wG_r29 : GoodIn lw_tbl wsL_law_r29 := goodIn_r _ [825, 826, 828, 24, 829, 830, 831, 832, 833, 834, 836, 837, 838, 839, 1361, 1362, 1363, 1364, 1142, 1143, 1147, 1134, 1144, 1141] (by decide +kernel) (by decide +kernel)
theorem wG_r30 : GoodIn lw_tbl wsL_law_r30 := goodIn_r _ [1430, 1148, 1130, 1365, 1367, 49, 1368, 1145, 1146, 1369, 1371, 50, 1372, 1373, 1374, 1375, 1376, 1377, 1378, 1379, 1381, 51, 1382, 1387] (by decide +kernel) (by decide +kernel)
theorem wG_r31 : GoodIn lw_tbl wsL_law_r31 := goodIn_r _ [1392, 1393, 1394, 1395, 1400, 1405, 1429, 1383, 1385, 52, 1386, 1388, 1390, 53, 1391, 1396, 1398, 54, 1399, 1401, 1403, 55, 1404, 1406] (by decide +kernel) (by decide +kernel)
theorem wG_r32 : GoodIn lw_tbl wsL_law_r32 := goodIn_r _ [1408, 56, 1409, 1428, 1410, 1412, 57, 1413, 1414, 1415, 1416, 1417, 1418, 1419, 1420, 1421, 1422, 1423, 1424, 1426, 58, 1427, 840, 841] (by decide +kernel) (by decide +kernel)
theorem wG_r33 : GoodIn lw_tbl wsL_law_r33 := goodIn_r _ [842, 843, 1431, 1432, 1433, 1434, 844, 845, 846, 847, 217, 1435, 1436, 1437, 1438, 848, 849, 850, 851, 852, 853, 854, 855, 856] (by decide +kernel) (by decide +kernel)
theorem wG_r34 : GoodIn lw_tbl wsL_law_r34 := goodIn_r _ [858, 25, 859, 567, 250, 861, 862, 863, 864, 865, 867, 26, 868, 870, 871, 872, 873, 874, 875, 876, 877, 878, 879, 880] (by decide +kernel) (by decide +kernel)
theorem wG_r35 : GoodIn lw_tbl wsL_law_r35 := goodIn_r _ [881, 882, 883, 884, 885, 886, 887, 888, 889, 216, 890, 891, 892, 893, 894, 895, 896, 898, 27, 899, 900, 902, 28, 903] (by decide +kernel) (by decide +kernel)
theorem wG_r36 : GoodIn lw_tbl wsL_law_r36 := goodIn_r _ [1439, 1440, 1441, 1442, 1443, 1445, 59, 1446, 1447, 1449, 60, 1450, 1451, 1453, 61, 1454, 1455, 1457, 62, 1458, 1459, 1461, 63, 1462] (by decide +kernel) (by decide +kernel)
theorem wG_r37 : GoodIn lw_tbl wsL_law_r37 := goodIn_r _ [904, 905, 906, 907, 908, 909, 910, 911, 912, 913, 1463, 1464, 1465, 1466, 914, 915, 916, 917, 918, 919, 920, 921, 122, 922] (by decide +kernel) (by decide +kernel)
theorem wG_r38 : GoodIn lw_tbl wsL_law_r38 := goodIn_r _ [923, 924, 925, 926, 1467, 1468, 1469, 1470, 1471, 1473, 64, 1474, 927, 928, 929, 930, 1475, 1476, 1477, 1478, 931, 932, 933, 934] (by decide +kernel) (by decide +kernel)
theorem wG_r39 : GoodIn lw_tbl wsL_law_r39 := goodIn_r _ [287, 285, 935, 936, 937, 938, 573, 939, 559, 940, 941, 943, 29, 944, 1479, 1480, 1481, 1482, 1150, 1483, 1485, 65, 1486, 945] (by decide +kernel) (by decide +kernel)
theorem wG_r40 : GoodIn lw_tbl wsL_law_r40 := goodIn_r _ [946, 947, 948, 318, 320, 1487, 1488, 1489, 1490, 949, 950, 951, 952, 953, 954, 955, 956, 957, 958, 960, 30, 961, 121, 570] (by decide +kernel) (by decide +kernel)
theorem wG_r41 : GoodIn lw_tbl wsL_law_r41 := goodIn_r _ [963, 557, 962, 964, 965, 967, 31, 968, 969, 971, 32, 972, 1491, 1492, 1493, 1494, 1495, 1496, 1497, 1499, 66, 1500, 1501, 1503] (by decide +kernel) (by decide +kernel)
theorem wG_r42 : GoodIn lw_tbl wsL_law_r42 := goodIn_r _ [67, 1504, 973, 974, 975, 976, 326, 322, 324, 977, 978, 979, 980, 990, 981, 983, 33, 984, 985, 987, 34, 988, 989, 1505] (by decide +kernel) (by decide +kernel)
theorem wG_r43 : GoodIn lw_tbl wsL_law_r43 := goodIn_r _ [1506, 1507, 1508, 991, 992, 993, 994, 995, 996, 997, 998, 282, 999, 1001, 35, 1002, 540, 220, 1003, 1004, 1005, 1006, 1007, 1008] (by decide +kernel) (by decide +kernel)
theorem wG_r44 : GoodIn lw_tbl wsL_law_r44 := goodIn_r _ [1009, 1010, 1011, 1012, 1013, 1014, 1509, 1510, 1511, 1512, 1513, 1515, 68, 1516, 1517, 1519, 69, 1520, 1015, 1016, 1017, 1018, 1521, 1522] (by decide +kernel) (by decide +kernel)
theorem wG_r45 : GoodIn lw_tbl wsL_law_r45 := goodIn_r _ [1523, 1524, 1019, 1020, 1021, 1022, 369, 371, 1032, 1023, 1024, 1025, 1026, 1027, 1028, 1029, 1030, 120, 542, 561, 1031, 1033, 1034, 1035] (by decide +kernel) (by decide +kernel)
theorem wG_r46 : GoodIn lw_tbl wsL_law_r46 := goodIn_r _ [1036, 1037, 1039, 36, 1040, 1041, 1043, 37, 1044, 1045, 1046, 1047, 1048, 1049, 1050, 1525, 1526, 1527, 1528, 1529, 1530, 1531, 1532, 1534] (by decide +kernel) (by decide +kernel)
theorem wG_r47 : GoodIn lw_tbl wsL_law_r47 := goodIn_r _ [70, 1535, 1051, 1052, 1053, 1054, 1055, 1056, 1057, 1058, 549, 544, 1536, 1537, 1538, 1539, 1059, 1060, 1061, 1062, 1063, 1064, 1065, 1066] (by decide +kernel) (by decide +kernel)
theorem wG_r48 : GoodIn lw_tbl wsL_law_r48 := goodIn_r _ [1540, 1541, 1542, 1543, 1544, 1546, 71, 1547, 1067, 1068, 1069, 1070, 1548, 1549, 1550, 1551, 1552, 1553, 1554, 1071, 1072, 1073, 1074, 1075] (by decide +kernel) (by decide +kernel)
theorem wG_r49 : GoodIn lw_tbl wsL_law_r49 := goodIn_r _ [1076, 1077, 1078, 1079, 1081, 38, 1082, 556, 562, 547, 1555, 1556, 1557, 1558, 1156, 1559, 1561, 72, 1562, 1563, 1565, 73, 1566, 1567] (by decide +kernel) (by decide +kernel)
theorem wG_r50 : GoodIn lw_tbl wsL_law_r50 := goodIn_r _ [1569, 74, 1570, 1571, 1573, 75, 1574, 1083, 1084, 1085, 1086, 392, 390, 1575, 1576, 1577, 1578, 1087, 1088, 1089, 1090, 126, 1091, 1093] (by decide +kernel) (by decide +kernel)
theorem wG_r51 : GoodIn lw_tbl wsL_law_r51 := goodIn_r _ [39, 1094, 1095, 1096, 1097, 1098, 571, 1099, 1579, 1580, 1581, 1582, 1100, 1101, 1102, 1103, 1583, 1584, 1585, 1586] (by decide +kernel) (by decide +kernel)
theorem wG_X0 : GoodIn lw_tbl wsX00 := goodIn_r _ [396, 398, 400, 402, 404] (by decide +kernel) (by decide +kernel)
theorem wG_X1 : GoodIn lw_tbl wsX10 := goodIn_r _ [374, 376, 378, 380] (by decide +kernel) (by decide +kernel)
theorem wG_X2 : GoodIn lw_tbl wsX20 := goodIn_r _ [293, 295, 297, 299, 301, 303, 305, 307] (by decide +kernel) (by decide +kernel)
theorem wG_X3 : GoodIn lw_tbl wsX30 := goodIn_r _ [127, 129, 131, 133] (by decide +kernel) (by decide +kernel)
theorem wG_X4 : GoodIn lw_tbl wsX40 := goodIn_r _ [574, 576, 578, 580, 582, 584, 586, 588] (by decide +kernel) (by decide +kernel)
theorem wG_X5 : GoodIn lw_tbl wsX50 := goodIn_r _ [335, 337, 339, 341, 343, 345, 347, 349, 351, 353, 355, 357, 359] (by decide +kernel) (by decide +kernel)
theorem wG_X6 : GoodIn lw_tbl wsX60 := goodIn_r _ [182, 184, 186, 188, 190, 192, 194] (by decide +kernel) (by decide +kernel)
theorem wG_X7 : GoodIn lw_tbl wsX70 := goodIn_r _ [259, 261, 263, 265, 267, 269, 271] (by decide +kernel) (by decide +kernel)
theorem wG_X8 : GoodIn lw_tbl wsX80 := goodIn_r _ [227, 229, 231, 233, 235, 237, 239] (by decide +kernel) (by decide +kernel)
theorem wG_X9 : GoodIn lw_tbl wsX90 := goodIn_r _ [422, 424, 426, 428] (by decide +kernel) (by decide +kernel)
theorem wG_X10 : GoodIn lw_tbl wsX100 := goodIn_r _ [152, 154, 156, 158, 160, 162] (by decide +kernel) (by decide +kernel)
theorem wG_X11 : GoodIn lw_tbl wsX110 := goodIn_r _ [442, 444, 446, 448, 450, 452, 454, 456, 458, 460, 462] (by decide +kernel) (by decide +kernel)
theorem wG_X12 : GoodIn lw_tbl wsX120 := goodIn_r _ [1157, 1159, 1161, 1163, 1165, 1167, 1169, 1171, 1173, 1175, 1177, 1179, 1181, 1183, 1185, 1187, 1189, 1191, 1193, 1195, 1197, 1199, 1201, 1203, 1205, 1207, 1209, 1211, 1213, 1215, 1217, 1219, 1221, 1223, 1225, 1227, 1229, 1231, 1233, 1235, 1237, 1239, 1241, 1243, 1245, 1247, 1249] (by decide +kernel) (by decide +kernel)
theorem wsG_ok : GoodIn lw_tbl wsL_law := goodIn_app (goodIn_app (goodIn_app (goodIn_app (goodIn_app (goodIn_app (goodIn_app (goodIn_app (goodIn_app (goodIn_app (goodIn_app (goodIn_app (goodIn_app (goodIn_app (goodIn_app wG_r1 (goodIn_app wG_r2 (goodIn_app wG_r3 (goodIn_app wG_r4 (goodIn_app wG_r5 (goodIn_app wG_r6 (goodIn_app wG_r7 (goodIn_app wG_r8 (goodIn_app wG_r9 (goodIn_app wG_r10 (goodIn_app wG_r11 (goodIn_app wG_r12 (goodIn_app wG_r13 (goodIn_app wG_r14 (goodIn_app wG_r15 (goodIn_app wG_r16 (goodIn_app wG_r17 (goodIn_app wG_r18 (goodIn_app wG_r19 (goodIn_app wG_r20 (goodIn_app wG_r21 (goodIn_app wG_r22 (goodIn_app wG_r23 (goodIn_app wG_r24 (goodIn_app wG_r25 (goodIn_app wG_r26 (goodIn_app wG_r27 (goodIn_app wG_r28 (goodIn_app wG_r29 (goodIn_app wG_r30 (goodIn_app wG_r31 (goodIn_app wG_r32 (goodIn_app wG_r33 (goodIn_app wG_r34 (goodIn_app wG_r35 (goodIn_app wG_r36 (goodIn_app wG_r37 (goodIn_app wG_r38 (goodIn_app wG_r39 (goodIn_app wG_r40 (goodIn_app wG_r41 (goodIn_app wG_r42 (goodIn_app wG_r43 (goodIn_app wG_r44 (goodIn_app wG_r45 (goodIn_app wG_r46 (goodIn_app wG_r47 (goodIn_app wG_r48 (goodIn_app wG_r49 (goodIn_app wG_r50 (wG_r51))))))))))))))))))))))))))))))))))))))))))))))))))) wG_X11) wG_X12) wG_X3) wG_X10) wG_X6) wG_X2) wG_X5) wG_X1) wG_X0) wG_X8) wG_X9) wG_X7) wG_X4) (fun _ h => absurd h List.not_mem_nil)
theorem wsL_law_in : ∀ w ∈ wsL_law, w ∈ lw_tbl := fun w h => (wsG_ok w h).1
theorem wI_r1 : ∀ w ∈ wsL_law_r1, w ∈ wsL_law := fun _ h => List.mem_append_left _ (List.mem_append_left _ (List.mem_append_left _ (List.mem_append_left _ (List.mem_append_left _ (List.mem_append_left _ (List.mem_append_left _ (List.mem_append_left _ (List.mem_append_left _ (List.mem_append_left _ (List.mem_append_left _ (List.mem_append_left _ (List.mem_append_left _ (List.mem_append_left _ (List.mem_append_left _ h))))))))))))))
theorem wI_r2 : ∀ w ∈ wsL_law_r2, w ∈ wsL_law := fun _ h => List.mem_append_left _ (List.mem_append_left _ (List.mem_append_left _ (List.mem_append_left _ (List.mem_append_left _ (List.mem_append_left _ (List.mem_append_left _ (List.mem_append_left _ (List.mem_append_left _ (List.mem_append_left _ (List.mem_append_left _ (List.mem_append_left _ (List.mem_append_left _ (List.mem_append_left _ (List.mem_append_right _ (List.mem_append_left _ h)))))))))))))))
theorem wI_r3 : ∀ w ∈ wsL_law_r3, w ∈ wsL_law := fun _ h => List.mem_append_left _ (List.mem_append_left _ (List.mem_append_left _ (List.mem_append_left _ (List.mem_append_left _ (List.mem_append_left _ (List.mem_append_left _ (List.mem_append_left _ (List.mem_append_left _ (List.mem_append_left _ (List.mem_append_left _ (List.mem_append_left _ (List.mem_append_left _ (List.mem_append_left _ (List.mem_append_right _ (List.mem_append_right _ (List.mem_append_left _ h))))))))))))))))
theorem wI_r4 : ∀ w ∈ wsL_law_r4, w ∈ wsL_law := fun _ h => List.mem_append_left _ (List.mem_append_left _ (List.mem_append_left _ (List.mem_append_left _ (List.mem_append_left _ (List.mem_append_left _ (List.mem_append_left _ (List.mem_append_left _ (List.mem_append_left _ (List.mem_append_left _ (List.mem_append_left _ (List.mem_append_left _ (List.mem_append_left _ (List.mem_append_left _ (List.mem_append_right _ (List.mem_append_right _ (List.mem_append_right _ (List.mem_append_left _ h)))))))))))))))))
theorem wI_r5 : ∀ w ∈ wsL_law_r5, w ∈ wsL_law := fun _ h => List.mem_append_left _ (List.mem_append_left _ (List.mem_append_left _ (List.mem_append_left _ (List.mem_append_left _ (List.mem_append_left _ (List.mem_append_left _ (List.mem_append_left _ (List.mem_append_left _ (List.mem_append_left _ (List.mem_append_left _ (List.mem_append_left _ (List.mem_append_left _ (List.mem_append_left _ (List.mem_append_right _ (List.mem_append_right _ (List.mem_append_right _ (List.mem_append_right _ (List.mem_append_left _ h))))))))))))))))))
theorem wI_r6 : ∀ w ∈ wsL_law_r6, w ∈ wsL_law := fun _ h => List.mem_append_left _ (List.mem_append_left _ (List.mem_append_left _ (List.mem_append_left _ (List.mem_append_left _ (List.mem_append_left _ (List.mem_append_left _ (List.mem_append_left _ (List.mem_append_left _ (List.mem_append_left _ (List.mem_append_left _ (List.mem_append_left _ (List.mem_append_left _ (List.mem_append_left _ (List.mem_append_right _ (List.mem_append_right _ (List.mem_append_right _ (List.mem_append_right _ (List.mem_append_right _ (List.mem_append_left _ h)))))))))))))))))))
theorem wI_r7 : ∀ w ∈ wsL_law_r7, w ∈ wsL_law := fun _ h => List.mem_append_left _ (List.mem_append_left _ (List.mem_append_left _ (List.mem_append_left _ (List.mem_append_left _ (List.mem_append_left _ (List.mem_append_left _ (List.mem_append_left _ (List.mem_append_left _ (List.mem_append_left _ (List.mem_append_left _ (List.mem_append_left _ (List.mem_append_left _ (List.mem_append_left _ (List.mem_append_right _ (List.mem_append_right _ (List.mem_append_right _ (List.mem_append_right _ (List.mem_append_right _ (List.mem_append_right _ (List.mem_append_left _ h))))))))))))))))))))
theorem wI_r8 : ∀ w ∈ wsL_law_r8, w ∈ wsL_law := fun _ h => List.mem_append_left _ (List.mem_append_left _ (List.mem_append_left _ (List.mem_append_left _ (List.mem_append_left _ (List.mem_append_left _ (List.mem_append_left _ (List.mem_append_left _ (List.mem_append_left _ (List.mem_append_left _ (List.mem_append_left _ (List.mem_append_left _ (List.mem_append_left _ (List.mem_append_left _ (List.mem_append_right _ (List.mem_append_right _ (List.mem_append_right _ (List.mem_append_right _ (List.mem_append_right _ (List.mem_append_right _ (List.mem_append_right _ (List.mem_append_left _ h)))))))))))))))))))))
theorem wI_r9 : ∀ w ∈ wsL_law_r9, w ∈ wsL_law := fun _ h => List.mem_append_left _ (List.mem_append_left _ (List.mem_append_left _ (List.mem_append_left _ (List.mem_append_left _ (List.mem_append_left _ (List.mem_append_left _ (List.mem_append_left _ (List.mem_append_left _ (List.mem_append_left _ (List.mem_append_left _ (List.mem_append_left _ (List.mem_append_left _ (List.mem_append_left _ (List.mem_append_right _ (List.mem_append_right _ (List.mem_append_right _ (List.mem_append_right _ (List.mem_append_right _ (List.mem_append_right _ (List.mem_append_right _ (List.mem_append_right _ (List.mem_append_left _ h))))))))))))))))))))))
theorem wI_r10 : ∀ w ∈ wsL_law_r10, w ∈ wsL_law := fun _ h => List.mem_append_left _ (List.mem_append_left _ (List.mem_append_left _ (List.mem_append_left _ (List.mem_append_left _ (List.mem_append_left _ (List.mem_append_left _ (List.mem_append_left _ (List.mem_append_left _ (List.mem_append_left _ (List.mem_append_left _ (List.mem_append_left _ (List.mem_append_left _ (List.mem_append_left _ (List.mem_append_right _ (List.mem_append_right _ (List.mem_append_right _ (List.mem_append_right _ (List.mem_append_right _ (List.mem_append_right _ (List.mem_append_right _ (List.mem_append_right _ (List.mem_append_right _ (List.mem_append_left _ h)))))))))))))))))))))))
theorem wI_r11 : ∀ w ∈ wsL_law_r11, w ∈ wsL_law := fun _ h => List.mem_append_left _ (List.mem_append_left _ (List.mem_append_left _ (List.mem_append_left _ (List.mem_append_left _ (List.mem_append_left _ (List.mem_append_left _ (List.mem_append_left _ (List.mem_append_left _ (List.mem_append_left _ (List.mem_append_left _ (List.mem_append_left _ (List.mem_append_left _ (List.mem_append_left _ (List.mem_append_right _ (List.mem_append_right _ (List.mem_append_right _ (List.mem_append_right _ (List.mem_append_right _ (List.mem_append_right _ (List.mem_append_right _ (List.mem_append_right _ (List.mem_append_right _ (List.mem_append_right _ (List.mem_append_left _ h))))))))))))))))))))))))
theorem wI_r12 : ∀ w ∈ wsL_law_r12, w ∈ wsL_law := fun _ h => List.mem_append_left _ (List.mem_append_left _ (List.mem_append_left _ (List.mem_append_left _ (List.mem_append_left _ (List.mem_append_left _ (List.mem_append_left _ (List.mem_append_left _ (List.mem_append_left _ (List.mem_append_left _ (List.mem_append_left _ (List.mem_append_left _ (List.mem_append_left _ (List.mem_append_left _ (List.mem_append_right _ (List.mem_append_right _ (List.mem_append_right _ (List.mem_append_right _ (List.mem_append_right _ (List.mem_append_right _ (List.mem_append_right _ (List.mem_append_right _ (List.mem_append_right _ (List.mem_append_right _ (List.mem_append_right _ (List.mem_append_left _ h)))))))))))))))))))))))))
theorem wI_r13 : ∀ w ∈ wsL_law_r13, w ∈ wsL_law := fun _ h => List.mem_append_left _ (List.mem_append_left _ (List.mem_append_left _ (List.mem_append_left _ (List.mem_append_left _ (List.mem_append_left _ (List.mem_append_left _ (List.mem_append_left _ (List.mem_append_left _ (List.mem_append_left _ (List.mem_append_left _ (List.mem_append_left _ (List.mem_append_left _ (List.mem_append_left _ (List.mem_append_right _ (List.mem_append_right _ (List.mem_append_right _ (List.mem_append_right _ (List.mem_append_right _ (List.mem_append_right _ (List.mem_append_right _ (List.mem_append_right _ (List.mem_append_right _ (List.mem_append_right _ (List.mem_append_right _ (List.mem_append_right _ (List.mem_append_left _ h))))))))))))))))))))))))))
theorem wI_r14 : ∀ w ∈ wsL_law_r14, w ∈ wsL_law := fun _ h => List.mem_append_left _ (List.mem_append_left _ (List.mem_append_left _ (List.mem_append_left _ (List.mem_append_left _ (List.mem_append_left _ (List.mem_append_left _ (List.mem_append_left _ (List.mem_append_left _ (List.mem_append_left _ (List.mem_append_left _ (List.mem_append_left _ (List.mem_append_left _ (List.mem_append_left _ (List.mem_append_right _ (List.mem_append_right _ (List.mem_append_right _ (List.mem_append_right _ (List.mem_append_right _ (List.mem_append_right _ (List.mem_append_right _ (List.mem_append_right _ (List.mem_append_right _ (List.mem_append_right _ (List.mem_append_right _ (List.mem_append_right _ (List.mem_append_right _ (List.mem_append_left _ h)))))))))))))))))))))))))))
theorem wI_r15 : ∀ w ∈ wsL_law_r15, w ∈ wsL_law := fun _ h => List.mem_append_left _ (List.mem_append_left _ (List.mem_append_left _ (List.mem_append_left _ (List.mem_append_left _ (List.mem_append_left _ (List.mem_append_left _ (List.mem_append_left _ (List.mem_append_left _ (List.mem_append_left _ (List.mem_append_left _ (List.mem_append_left _ (List.mem_append_left _ (List.mem_append_left _ (List.mem_append_right _ (List.mem_append_right _ (List.mem_append_right _ (List.mem_append_right _ (List.mem_append_right _ (List.mem_append_right _ (List.mem_append_right _ (List.mem_append_right _ (List.mem_append_right _ (List.mem_append_right _ (List.mem_append_right _ (List.mem_append_right _ (List.mem_append_right _ (List.mem_append_right _ (List.mem_append_left _ h))))))))))))))))))))))))))))
theorem wI_r16 : ∀ w ∈ wsL_law_r16, w ∈ wsL_law := fun _ h => List.mem_append_left _ (List.mem_append_left _ (List.mem_append_left _ (List.mem_append_left _ (List.mem_append_left _ (List.mem_append_left _ (List.mem_append_left _ (List.mem_append_left _ (List.mem_append_left _ (List.mem_append_left _ (List.mem_append_left _ (List.mem_append_left _ (List.mem_append_left _ (List.mem_append_left _ (List.mem_append_right _ (List.mem_append_right _ (List.mem_append_right _ (List.mem_append_right _ (List.mem_append_right _ (List.mem_append_right _ (List.mem_append_right _ (List.mem_append_right _ (List.mem_append_right _ (List.mem_append_right _ (List.mem_append_right _ (List.mem_append_right _ (List.mem_append_right _ (List.mem_append_right _ (List.mem_append_right _ (List.mem_append_left _ h)))))))))))))))))))))))))))))
theorem wI_r17 : ∀ w ∈ wsL_law_r17, w ∈ wsL_law := fun _ h => List.mem_append_left _ (List.mem_append_left _ (List.mem_append_left _ (List.mem_append_left _ (List.mem_append_left _ (List.mem_append_left _ (List.mem_append_left _ (List.mem_append_left _ (List.mem_append_left _ (List.mem_append_left _ (List.mem_append_left _ (List.mem_append_left _ (List.mem_append_left _ (List.mem_append_left _ (List.mem_append_right _ (List.mem_append_right _ (List.mem_append_right _ (List.mem_append_right _ (List.mem_append_right _ (List.mem_append_right _ (List.mem_append_right _ (List.mem_append_right _ (List.mem_append_right _ (List.mem_append_right _ (List.mem_append_right _ (List.mem_append_right _ (List.mem_append_right _ (List.mem_append_right _ (List.mem_append_right _ (List.mem_append_right _ (List.mem_append_left _ h))))))))))))))))))))))))))))))
theorem wI_r18 : ∀ w ∈ wsL_law_r18, w ∈ wsL_law := fun _ h => List.mem_append_left _ (List.mem_append_left _ (List.mem_append_left _ (List.mem_append_left _ (List.mem_append_left _ (List.mem_append_left _ (List.mem_append_left _ (List.mem_append_left _ (List.mem_append_left _ (List.mem_append_left _ (List.mem_append_left _ (List.mem_append_left _ (List.mem_append_left _ (List.mem_append_left _ (List.mem_append_right _ (List.mem_append_right _ (List.mem_append_right _ (List.mem_append_right _ (List.mem_append_right _ (List.mem_append_right _ (List.mem_append_right _ (List.mem_append_right _ (List.mem_append_right _ (List.mem_append_right _ (List.mem_append_right _ (List.mem_append_right _ (List.mem_append_right _ (List.mem_append_right _ (List.mem_append_right _ (List.mem_append_right _ (List.mem_append_right _ (List.mem_append_left _ h)))))))))))))))))))))))))))))))
theorem wI_r19 : ∀ w ∈ wsL_law_r19, w ∈ wsL_law := fun _ h => List.mem_append_left _ (List.mem_append_left _ (List.mem_append_left _ (List.mem_append_left _ (List.mem_append_left _ (List.mem_append_left _ (List.mem_append_left _ (List.mem_append_left _ (List.mem_append_left _ (List.mem_append_left _ (List.mem_append_left _ (List.mem_append_left _ (List.mem_append_left _ (List.mem_append_left _ (List.mem_append_right _ (List.mem_append_right _ (List.mem_append_right _ (List.mem_append_right _ (List.mem_append_right _ (List.mem_append_right _ (List.mem_append_right _ (List.mem_append_right _ (List.mem_append_right _ (List.mem_append_right _ (List.mem_append_right _ (List.mem_append_right _ (List.mem_append_right _ (List.mem_append_right _ (List.mem_append_right _ (List.mem_append_right _ (List.mem_append_right _ (List.mem_append_right _ (List.mem_append_left _ h))))))))))))))))))))))))))))))))
theorem wI_r20 : ∀ w ∈ wsL_law_r20, w ∈ wsL_law := fun _ h => List.mem_append_left _ (List.mem_append_left _ (List.mem_append_left _ (List.mem_append_left _ (List.mem_append_left _ (List.mem_append_left _ (List.mem_append_left _ (List.mem_append_left _ (List.mem_append_left _ (List.mem_append_left _ (List.mem_append_left _ (List.mem_append_left _ (List.mem_append_left _ (List.mem_append_left _ (List.mem_append_right _ (List.mem_append_right _ (List.mem_append_right _ (List.mem_append_right _ (List.mem_append_right _ (List.mem_append_right _ (List.mem_append_right _ (List.mem_append_right _ (List.mem_append_right _ (List.mem_append_right _ (List.mem_append_right _ (List.mem_append_right _ (List.mem_append_right _ (List.mem_append_right _ (List.mem_append_right _ (List.mem_append_right _ (List.mem_append_right _ (List.mem_append_right _ (List.mem_append_right _ (List.mem_append_left _ h)))))))))))))))))))))))))))))))))
theorem wI_r21 : ∀ w ∈ wsL_law_r21, w ∈ wsL_law := fun _ h => List.mem_append_left _ (List.mem_append_left _ (List.mem_append_left _ (List.mem_append_left _ (List.mem_append_left _ (List.mem_append_left _ (List.mem_append_left _ (List.mem_append_left _ (List.mem_append_left _ (List.mem_append_left _ (List.mem_append_left _ (List.mem_append_left _ (List.mem_append_left _ (List.mem_append_left _ (List.mem_append_right _ (List.mem_append_right _ (List.mem_append_right _ (List.mem_append_right _ (List.mem_append_right _ (List.mem_append_right _ (List.mem_append_right _ (List.mem_append_right _ (List.mem_append_right _ (List.mem_append_right _ (List.mem_append_right _ (List.mem_append_right _ (List.mem_append_right _ (List.mem_append_right _ (List.mem_append_right _ (List.mem_append_right _ (List.mem_append_right _ (List.mem_append_right _ (List.mem_append_right _ (List.mem_append_right _ (List.mem_append_left _ h))))))))))))))))))))))))))))))))))
theorem wI_r22 : ∀ w ∈ wsL_law_r22, w ∈ wsL_law := fun _ h => List.mem_append_left _ (List.mem_append_left _ (List.mem_append_left _ (List.mem_append_left _ (List.mem_append_left _ (List.mem_append_left _ (List.mem_append_left _ (List.mem_append_left _ (List.mem_append_left _ (List.mem_append_left _ (List.mem_append_left _ (List.mem_append_left _ (List.mem_append_left _ (List.mem_append_left _ (List.mem_append_right _ (List.mem_append_right _ (List.mem_append_right _ (List.mem_append_right _ (List.mem_append_right _ (List.mem_append_right _ (List.mem_append_right _ (List.mem_append_right _ (List.mem_append_right _ (List.mem_append_right _ (List.mem_append_right _ (List.mem_append_right _ (List.mem_append_right _ (List.mem_append_right _ (List.mem_append_right _ (List.mem_append_right _ (List.mem_append_right _ (List.mem_append_right _ (List.mem_append_right _ (List.mem_append_right _ (List.mem_append_right _ (List.mem_append_left _ h)))))))))))))))))))))))))))))))))))
theorem wI_r23 : ∀ w ∈ wsL_law_r23, w ∈ wsL_law := fun _ h => List.mem_append_left _ (List.mem_append_left _ (List.mem_append_left _ (List.mem_append_left _ (List.mem_append_left _ (List.mem_append_left _ (List.mem_append_left _ (List.mem_append_left _ (List.mem_append_left _ (List.mem_append_left _ (List.mem_append_left _ (List.mem_append_left _ (List.mem_append_left _ (List.mem_append_left _ (List.mem_append_right _ (List.mem_append_right _ (List.mem_append_right _ (List.mem_append_right _ (List.mem_append_right _ (List.mem_append_right _ (List.mem_append_right _ (List.mem_append_right _ (List.mem_append_right _ (List.mem_append_right _ (List.mem_append_right _ (List.mem_append_right _ (List.mem_append_right _ (List.mem_append_right _ (List.mem_append_right _ (List.mem_append_right _ (List.mem_append_right _ (List.mem_append_right _ (List.mem_append_right _ (List.mem_append_right _ (List.mem_append_right _ (List.mem_append_right _ (List.mem_append_left _ h))))))))))))))))))))))))))))))))))))
theorem wI_r24 : ∀ w ∈ wsL_law_r24, w ∈ wsL_law := fun _ h => List.mem_append_left _ (List.mem_append_left _ (List.mem_append_left _ (List.mem_append_left _ (List.mem_append_left _ (List.mem_append_left _ (List.mem_append_left _ (List.mem_append_left _ (List.mem_append_left _ (List.mem_append_left _ (List.mem_append_left _ (List.mem_append_left _ (List.mem_append_left _ (List.mem_append_left _ (List.mem_append_right _ (List.mem_append_right _ (List.mem_append_right _ (List.mem_append_right _ (List.mem_append_right _ (List.mem_append_right _ (List.mem_append_right _ (List.mem_append_right _ (List.mem_append_right _ (List.mem_append_right _ (List.mem_append_right _ (List.mem_append_right _ (List.mem_append_right _ (List.mem_append_right _ (List.mem_append_right _ (List.mem_append_right _ (List.mem_append_right _ (List.mem_append_right _ (List.mem_append_right _ (List.mem_append_right _ (List.mem_append_right _ (List.mem_append_right _ (List.mem_append_right _ (List.mem_append_left _ h)))))))))))))))))))))))))))))))))))))
theorem wI_r25 : ∀ w ∈ wsL_law_r25, w ∈ wsL_law := fun _ h => List.mem_append_left _ (List.mem_append_left _ (List.mem_append_left _ (List.mem_append_left _ (List.mem_append_left _ (List.mem_append_left _ (List.mem_append_left _ (List.mem_append_left _ (List.mem_append_left _ (List.mem_append_left _ (List.mem_append_left _ (List.mem_append_left _ (List.mem_append_left _ (List.mem_append_left _ (List.mem_append_right _ (List.mem_append_right _ (List.mem_append_right _ (List.mem_append_right _ (List.mem_append_right _ (List.mem_append_right _ (List.mem_append_right _ (List.mem_append_right _ (List.mem_append_right _ (List.mem_append_right _ (List.mem_append_right _ (List.mem_append_right _ (List.mem_append_right _ (List.mem_append_right _ (List.mem_append_right _ (List.mem_append_right _ (List.mem_append_right _ (List.mem_append_right _ (List.mem_append_right _ (List.mem_append_right _ (List.mem_append_right _ (List.mem_append_right _ (List.mem_append_right _ (List.mem_append_right _ (List.mem_append_left _ h))))))))))))))))))))))))))))))))))))))
theorem wI_r26 : ∀ w ∈ wsL_law_r26, w ∈ wsL_law := fun _ h => List.mem_append_left _ (List.mem_append_left _ (List.mem_append_left _ (List.mem_append_left _ (List.mem_append_left _ (List.mem_append_left _ (List.mem_append_left _ (List.mem_append_left _ (List.mem_append_left _ (List.mem_append_left _ (List.mem_append_left _ (List.mem_append_left _ (List.mem_append_left _ (List.mem_append_left _ (List.mem_append_right _ (List.mem_append_right _ (List.mem_append_right _ (List.mem_append_right _ (List.mem_append_right _ (List.mem_append_right _ (List.mem_append_right _ (List.mem_append_right _ (List.mem_append_right _ (List.mem_append_right _ (List.mem_append_right _ (List.mem_append_right _ (List.mem_append_right _ (List.mem_append_right _ (List.mem_append_right _ (List.mem_append_right _ (List.mem_append_right _ (List.mem_append_right _ (List.mem_append_right _ (List.mem_append_right _ (List.mem_append_right _ (List.mem_append_right _ (List.mem_append_right _ (List.mem_append_right _ (List.mem_append_right _ (List.mem_append_left _ h)))))))))))))))))))))))))))))))))))))))
theorem wI_r27 : ∀ w ∈ wsL_law_r27, w ∈ wsL_law := fun _ h => List.mem_append_left _ (List.mem_append_left _ (List.mem_append_left _ (List.mem_append_left _ (List.mem_append_left _ (List.mem_append_left _ (List.mem_append_left _ (List.mem_append_left _ (List.mem_append_left _ (List.mem_append_left _ (List.mem_append_left _ (List.mem_append_left _ (List.mem_append_left _ (List.mem_append_left _ (List.mem_append_right _ (List.mem_append_right _ (List.mem_append_right _ (List.mem_append_right _ (List.mem_append_right _ (List.mem_append_right _ (List.mem_append_right _ (List.mem_append_right _ (List.mem_append_right _ (List.mem_append_right _ (List.mem_append_right _ (List.mem_append_right _ (List.mem_append_right _ (List.mem_append_right _ (List.mem_append_right _ (List.mem_append_right _ (List.mem_append_right _ (List.mem_append_right _ (List.mem_append_right _ (List.mem_append_right _ (List.mem_append_right _ (List.mem_append_right _ (List.mem_append_right _ (List.mem_append_right _ (List.mem_append_right _ (List.mem_append_right _ (List.mem_append_left _ h))))))))))))))))))))))))))))))))))))))))
theorem wI_r28 : ∀ w ∈ wsL_law_r28, w ∈ wsL_law := fun _ h => List.mem_append_left _ (List.mem_append_left _ (List.mem_append_left _ (List.mem_append_left _ (List.mem_append_left _ (List.mem_append_left _ (List.mem_append_left _ (List.mem_append_left _ (List.mem_append_left _ (List.mem_append_left _ (List.mem_append_left _ (List.mem_append_left _ (List.mem_append_left _ (List.mem_append_left _ (List.mem_append_right _ (List.mem_append_right _ (List.mem_append_right _ (List.mem_append_right _ (List.mem_append_right _ (List.mem_append_right _ (List.mem_append_right _ (List.mem_append_right _ (List.mem_append_right _ (List.mem_append_right _ (List.mem_append_right _ (List.mem_append_right _ (List.mem_append_right _ (List.mem_append_right _ (List.mem_append_right _ (List.mem_append_right _ (List.mem_append_right _ (List.mem_append_right _ (List.mem_append_right _ (List.mem_append_right _ (List.mem_append_right _ (List.mem_append_right _ (List.mem_append_right _ (List.mem_append_right _ (List.mem_append_right _ (List.mem_append_right _ (List.mem_append_right _ (List.mem_append_left _ h)))))))))))))))))))))))))))))))))))))))))
theorem wI_r29 : ∀ w ∈ wsL_law_r29, w ∈ wsL_law := fun _ h => List.mem_append_left _ (List.mem_append_left _ (List.mem_append_left _ (List.mem_append_left _ (List.mem_append_left _ (List.mem_append_left _ (List.mem_append_left _ (List.mem_append_left _ (List.mem_append_left _ (List.mem_append_left _ (List.mem_append_left _ (List.mem_append_left _ (List.mem_append_left _ (List.mem_append_left _ (List.mem_append_right _ (List.mem_append_right _ (List.mem_append_right _ (List.mem_append_right _ (List.mem_append_right _ (List.mem_append_right _ (List.mem_append_right _ (List.mem_append_right _ (List.mem_append_right _ (List.mem_append_right _ (List.mem_append_right _ (List.mem_append_right _ (List.mem_append_right _ (List.mem_append_right _ (List.mem_append_right _ (List.mem_append_right _ (List.mem_append_right _ (List.mem_append_right _ (List.mem_append_right _ (List.mem_append_right _ (List.mem_append_right _ (List.mem_append_right _ (List.mem_append_right _ (List.mem_append_right _ (List.mem_append_right _ (List.mem_append_right _ (List.mem_append_right _ (List.mem_append_right _ (List.mem_append_left _ h))))))))))))))))))))))))))))))))))))))))))
theorem wI_r30 : ∀ w ∈ wsL_law_r30, w ∈ wsL_law := fun _ h => List.mem_append_left _ (List.mem_append_left _ (List.mem_append_left _ (List.mem_append_left _ (List.mem_append_left _ (List.mem_append_left _ (List.mem_append_left _ (List.mem_append_left _ (List.mem_append_left _ (List.mem_append_left _ (List.mem_append_left _ (List.mem_append_left _ (List.mem_append_left _ (List.mem_append_left _ (List.mem_append_right _ (List.mem_append_right _ (List.mem_append_right _ (List.mem_append_right _ (List.mem_append_right _ (List.mem_append_right _ (List.mem_append_right _ (List.mem_append_right _ (List.mem_append_right _ (List.mem_append_right _ (List.mem_append_right _ (List.mem_append_right _ (List.mem_append_right _ (List.mem_append_right _ (List.mem_append_right _ (List.mem_append_right _ (List.mem_append_right _ (List.mem_append_right _ (List.mem_append_right _ (List.mem_append_right _ (List.mem_append_right _ (List.mem_append_right _ (List.mem_append_right _ (List.mem_append_right _ (List.mem_append_right _ (List.mem_append_right _ (List.mem_append_right _ (List.mem_append_right _ (List.mem_append_right _ (List.mem_append_left _ h)))))))))))))))))))))))))))))))))))))))))))
theorem wI_r31 : ∀ w ∈ wsL_law_r31, w ∈ wsL_law := fun _ h => List.mem_append_left _ (List.mem_append_left _ (List.mem_append_left _ (List.mem_append_left _ (List.mem_append_left _ (List.mem_append_left _ (List.mem_append_left _ (List.mem_append_left _ (List.mem_append_left _ (List.mem_append_left _ (List.mem_append_left _ (List.mem_append_left _ (List.mem_append_left _ (List.mem_append_left _ (List.mem_append_right _ (List.mem_append_right _ (List.mem_append_right _ (List.mem_append_right _ (List.mem_append_right _ (List.mem_append_right _ (List.mem_append_right _ (List.mem_append_right _ (List.mem_append_right _ (List.mem_append_right _ (List.mem_append_right _ (List.mem_append_right _ (List.mem_append_right _ (List.mem_append_right _ (List.mem_append_right _ (List.mem_append_right _ (List.mem_append_right _ (List.mem_append_right _ (List.mem_append_right _ (List.mem_append_right _ (List.mem_append_right _ (List.mem_append_right _ (List.mem_append_right _ (List.mem_append_right _ (List.mem_append_right _ (List.mem_append_right _ (List.mem_append_right _ (List.mem_append_right _ (List.mem_append_right _ (List.mem_append_right _ (List.mem_append_left _ h))))))))))))))))))))))))))))))))))))))))))))
theorem wI_r32 : ∀ w ∈ wsL_law_r32, w ∈ wsL_law := fun _ h => List.mem_append_left _ (List.mem_append_left _ (List.mem_append_left _ (List.mem_append_left _ (List.mem_append_left _ (List.mem_append_left _ (List.mem_append_left _ (List.mem_append_left _ (List.mem_append_left _ (List.mem_append_left _ (List.mem_append_left _ (List.mem_append_left _ (List.mem_append_left _ (List.mem_append_left _ (List.mem_append_right _ (List.mem_append_right _ (List.mem_append_right _ (List.mem_append_right _ (List.mem_append_right _ (List.mem_append_right _ (List.mem_append_right _ (List.mem_append_right _ (List.mem_append_right _ (List.mem_append_right _ (List.mem_append_right _ (List.mem_append_right _ (List.mem_append_right _ (List.mem_append_right _ (List.mem_append_right _ (List.mem_append_right _ (List.mem_append_right _ (List.mem_append_right _ (List.mem_append_right _ (List.mem_append_right _ (List.mem_append_right _ (List.mem_append_right _ (List.mem_append_right _ (List.mem_append_right _ (List.mem_append_right _ (List.mem_append_right _ (List.mem_append_right _ (List.mem_append_right _ (List.mem_append_right _ (List.mem_append_right _ (List.mem_append_right _ (List.mem_append_left _ h)))))))))))))))))))))))))))))))))))))))))))))
theorem wI_r33 : ∀ w ∈ wsL_law_r33, w ∈ wsL_law := fun _ h => List.mem_append_left _ (List.mem_append_left _ (List.mem_append_left _ (List.mem_append_left _ (List.mem_append_left _ (List.mem_append_left _ (List.mem_append_left _ (List.mem_append_left _ (List.mem_append_left _ (List.mem_append_left _ (List.mem_append_left _ (List.mem_append_left _ (List.mem_append_left _ (List.mem_append_left _ (List.mem_append_right _ (List.mem_append_right _ (List.mem_append_right _ (List.mem_append_right _ (List.mem_append_right _ (List.mem_append_right _ (List.mem_append_right _ (List.mem_append_right _ (List.mem_append_right _ (List.mem_append_right _ (List.mem_append_right _ (List.mem_append_right _ (List.mem_append_right _ (List.mem_append_right _ (List.mem_append_right _ (List.mem_append_right _ (List.mem_append_right _ (List.mem_append_right _ (List.mem_append_right _ (List.mem_append_right _ (List.mem_append_right _ (List.mem_append_right _ (List.mem_append_right _ (List.mem_append_right _ (List.mem_append_right _ (List.mem_append_right _ (List.mem_append_right _ (List.mem_append_right _ (List.mem_append_right _ (List.mem_append_right _ (List.mem_append_right _ (List.mem_append_right _ (List.mem_append_left _ h))))))))))))))))))))))))))))))))))))))))))))))
theorem wI_r34 : ∀ w ∈ wsL_law_r34, w ∈ wsL_law := fun _ h => List.mem_append_left _ (List.mem_append_left _ (List.mem_append_left _ (List.mem_append_left _ (List.mem_append_left _ (List.mem_append_left _ (List.mem_append_left _ (List.mem_append_left _ (List.mem_append_left _ (List.mem_append_left _ (List.mem_append_left _ (List.mem_append_left _ (List.mem_append_left _ (List.mem_append_left _ (List.mem_append_right _ (List.mem_append_right _ (List.mem_append_right _ (List.mem_append_right _ (List.mem_append_right _ (List.mem_append_right _ (List.mem_append_right _ (List.mem_append_right _ (List.mem_append_right _ (List.mem_append_right _ (List.mem_append_right _ (List.mem_append_right _ (List.mem_append_right _ (List.mem_append_right _ (List.mem_append_right _ (List.mem_append_right _ (List.mem_append_right _ (List.mem_append_right _ (List.mem_append_right _ (List.mem_append_right _ (List.mem_append_right _ (List.mem_append_right _ (List.mem_append_right _ (List.mem_append_right _ (List.mem_append_right _ (List.mem_append_right _ (List.mem_append_right _ (List.mem_append_right _ (List.mem_append_right _ (List.mem_append_right _ (List.mem_append_right _ (List.mem_append_right _ (List.mem_append_right _ (List.mem_append_left _ h)))))))))))))))))))))))))))))))))))))))))))))))
theorem wI_r35 : ∀ w ∈ wsL_law_r35, w ∈ wsL_law := fun _ h => List.mem_append_left _ (List.mem_append_left _ (List.mem_append_left _ (List.mem_append_left _ (List.mem_append_left _ (List.mem_append_left _ (List.mem_append_left _ (List.mem_append_left _ (List.mem_append_left _ (List.mem_append_left _ (List.mem_append_left _ (List.mem_append_left _ (List.mem_append_left _ (List.mem_append_left _ (List.mem_append_right _ (List.mem_append_right _ (List.mem_append_right _ (List.mem_append_right _ (List.mem_append_right _ (List.mem_append_right _ (List.mem_append_right _ (List.mem_append_right _ (List.mem_append_right _ (List.mem_append_right _ (List.mem_append_right _ (List.mem_append_right _ (List.mem_append_right _ (List.mem_append_right _ (List.mem_append_right _ (List.mem_append_right _ (List.mem_append_right _ (List.mem_append_right _ (List.mem_append_right _ (List.mem_append_right _ (List.mem_append_right _ (List.mem_append_right _ (List.mem_append_right _ (List.mem_append_right _ (List.mem_append_right _ (List.mem_append_right _ (List.mem_append_right _ (List.mem_append_right _ (List.mem_append_right _ (List.mem_append_right _ (List.mem_append_right _ (List.mem_append_right _ (List.mem_append_right _ (List.mem_append_right _ (List.mem_append_left _ h))))))))))))))))))))))))))))))))))))))))))))))))
theorem wI_r36 : ∀ w ∈ wsL_law_r36, w ∈ wsL_law := fun _ h => List.mem_append_left _ (List.mem_append_left _ (List.mem_append_left _ (List.mem_append_left _ (List.mem_append_left _ (List.mem_append_left _ (List.mem_append_left _ (List.mem_append_left _ (List.mem_append_left _ (List.mem_append_left _ (List.mem_append_left _ (List.mem_append_left _ (List.mem_append_left _ (List.mem_append_left _ (List.mem_append_right _ (List.mem_append_right _ (List.mem_append_right _ (List.mem_append_right _ (List.mem_append_right _ (List.mem_append_right _ (List.mem_append_right _ (List.mem_append_right _ (List.mem_append_right _ (List.mem_append_right _ (List.mem_append_right _ (List.mem_append_right _ (List.mem_append_right _ (List.mem_append_right _ (List.mem_append_right _ (List.mem_append_right _ (List.mem_append_right _ (List.mem_append_right _ (List.mem_append_right _ (List.mem_append_right _ (List.mem_append_right _ (List.mem_append_right _ (List.mem_append_right _ (List.mem_append_right _ (List.mem_append_right _ (List.mem_append_right _ (List.mem_append_right _ (List.mem_append_right _ (List.mem_append_right _ (List.mem_append_right _ (List.mem_append_right _ (List.mem_append_right _ (List.mem_append_right _ (List.mem_append_right _ (List.mem_append_right _ (List.mem_append_left _ h)))))))))))))))))))))))))))))))))))))))))))))))))
theorem wI_r37 : ∀ w ∈ wsL_law_r37, w ∈ wsL_law := fun _ h => List.mem_append_left _ (List.mem_append_left _ (List.mem_append_left _ (List.mem_append_left _ (List.mem_append_left _ (List.mem_append_left _ (List.mem_append_left _ (List.mem_append_left _ (List.mem_append_left _ (List.mem_append_left _ (List.mem_append_left _ (List.mem_append_left _ (List.mem_append_left _ (List.mem_append_left _ (List.mem_append_right _ (List.mem_append_right _ (List.mem_append_right _ (List.mem_append_right _ (List.mem_append_right _ (List.mem_append_right _ (List.mem_append_right _ (List.mem_append_right _ (List.mem_append_right _ (List.mem_append_right _ (List.mem_append_right _ (List.mem_append_right _ (List.mem_append_right _ (List.mem_append_right _ (List.mem_append_right _ (List.mem_append_right _ (List.mem_append_right _ (List.mem_append_right _ (List.mem_append_right _ (List.mem_append_right _ (List.mem_append_right _ (List.mem_append_right _ (List.mem_append_right _ (List.mem_append_right _ (List.mem_append_right _ (List.mem_append_right _ (List.mem_append_right _ (List.mem_append_right _ (List.mem_append_right _ (List.mem_append_right _ (List.mem_append_right _ (List.mem_append_right _ (List.mem_append_right _ (List.mem_append_right _ (List.mem_append_right _ (List.mem_append_right _ (List.mem_append_left _ h))))))))))))))))))))))))))))))))))))))))))))))))))
theorem wI_r38 : ∀ w ∈ wsL_law_r38, w ∈ wsL_law := fun _ h => List.mem_append_left _ (List.mem_append_left _ (List.mem_append_left _ (List.mem_append_left _ (List.mem_append_left _ (List.mem_append_left _ (List.mem_append_left _ (List.mem_append_left _ (List.mem_append_left _ (List.mem_append_left _ (List.mem_append_left _ (List.mem_append_left _ (List.mem_append_left _ (List.mem_append_left _ (List.mem_append_right _ (List.mem_append_right _ (List.mem_append_right _ (List.mem_append_right _ (List.mem_append_right _ (List.mem_append_right _ (List.mem_append_right _ (List.mem_append_right _ (List.mem_append_right _ (List.mem_append_right _ (List.mem_append_right _ (List.mem_append_right _ (List.mem_append_right _ (List.mem_append_right _ (List.mem_append_right _ (List.mem_append_right _ (List.mem_append_right _ (List.mem_append_right _ (List.mem_append_right _ (List.mem_append_right _ (List.mem_append_right _ (List.mem_append_right _ (List.mem_append_right _ (List.mem_append_right _ (List.mem_append_right _ (List.mem_append_right _ (List.mem_append_right _ (List.mem_append_right _ (List.mem_append_right _ (List.mem_append_right _ (List.mem_append_right _ (List.mem_append_right _ (List.mem_append_right _ (List.mem_append_right _ (List.mem_append_right _ (List.mem_append_right _ (List.mem_append_right _ (List.mem_append_left _ h)))))))))))))))))))))))))))))))))))))))))))))))))))
theorem wI_r39 : ∀ w ∈ wsL_law_r39, w ∈ wsL_law := fun _ h => List.mem_append_left _ (List.mem_append_left _ (List.mem_append_left _ (List.mem_append_left _ (List.mem_append_left _ (List.mem_append_left _ (List.mem_append_left _ (List.mem_append_left _ (List.mem_append_left _ (List.mem_append_left _ (List.mem_append_left _ (List.mem_append_left _ (List.mem_append_left _ (List.mem_append_left _ (List.mem_append_right _ (List.mem_append_right _ (List.mem_append_right _ (List.mem_append_right _ (List.mem_append_right _ (List.mem_append_right _ (List.mem_append_right _ (List.mem_append_right _ (List.mem_append_right _ (List.mem_append_right _ (List.mem_append_right _ (List.mem_append_right _ (List.mem_append_right _ (List.mem_append_right _ (List.mem_append_right _ (List.mem_append_right _ (List.mem_append_right _ (List.mem_append_right _ (List.mem_append_right _ (List.mem_append_right _ (List.mem_append_right _ (List.mem_append_right _ (List.mem_append_right _ (List.mem_append_right _ (List.mem_append_right _ (List.mem_append_right _ (List.mem_append_right _ (List.mem_append_right _ (List.mem_append_right _ (List.mem_append_right _ (List.mem_append_right _ (List.mem_append_right _ (List.mem_append_right _ (List.mem_append_right _ (List.mem_append_right _ (List.mem_append_right _ (List.mem_append_right _ (List.mem_append_right _ (List.mem_append_left _ h))))))))))))))))))))))))))))))))))))))))))))))))))))
theorem wI_r40 : ∀ w ∈ wsL_law_r40, w ∈ wsL_law := fun _ h => List.mem_append_left _ (List.mem_append_left _ (List.mem_append_left _ (List.mem_append_left _ (List.mem_append_left _ (List.mem_append_left _ (List.mem_append_left _ (List.mem_append_left _ (List.mem_append_left _ (List.mem_append_left _ (List.mem_append_left _ (List.mem_append_left _ (List.mem_append_left _ (List.mem_append_left _ (List.mem_append_right _ (List.mem_append_right _ (List.mem_append_right _ (List.mem_append_right _ (List.mem_append_right _ (List.mem_append_right _ (List.mem_append_right _ (List.mem_append_right _ (List.mem_append_right _ (List.mem_append_right _ (List.mem_append_right _ (List.mem_append_right _ (List.mem_append_right _ (List.mem_append_right _ (List.mem_append_right _ (List.mem_append_right _ (List.mem_append_right _ (List.mem_append_right _ (List.mem_append_right _ (List.mem_append_right _ (List.mem_append_right _ (List.mem_append_right _ (List.mem_append_right _ (List.mem_append_right _ (List.mem_append_right _ (List.mem_append_right _ (List.mem_append_right _ (List.mem_append_right _ (List.mem_append_right _ (List.mem_append_right _ (List.mem_append_right _ (List.mem_append_right _ (List.mem_append_right _ (List.mem_append_right _ (List.mem_append_right _ (List.mem_append_right _ (List.mem_append_right _ (List.mem_append_right _ (List.mem_append_right _ (List.mem_append_left _ h)))))))))))))))))))))))))))))))))))))))))))))))))))))
theorem wI_r41 : ∀ w ∈ wsL_law_r41, w ∈ wsL_law := fun _ h => List.mem_append_left _ (List.mem_append_left _ (List.mem_append_left _ (List.mem_append_left _ (List.mem_append_left _ (List.mem_append_left _ (List.mem_append_left _ (List.mem_append_left _ (List.mem_append_left _ (List.mem_append_left _ (List.mem_append_left _ (List.mem_append_left _ (List.mem_append_left _ (List.mem_append_left _ (List.mem_append_right _ (List.mem_append_right _ (List.mem_append_right _ (List.mem_append_right _ (List.mem_append_right _ (List.mem_append_right _ (List.mem_append_right _ (List.mem_append_right _ (List.mem_append_right _ (List.mem_append_right _ (List.mem_append_right _ (List.mem_append_right _ (List.mem_append_right _ (List.mem_append_right _ (List.mem_append_right _ (List.mem_append_right _ (List.mem_append_right _ (List.mem_append_right _ (List.mem_append_right _ (List.mem_append_right _ (List.mem_append_right _ (List.mem_append_right _ (List.mem_append_right _ (List.mem_append_right _ (List.mem_append_right _ (List.mem_append_right _ (List.mem_append_right _ (List.mem_append_right _ (List.mem_append_right _ (List.mem_append_right _ (List.mem_append_right _ (List.mem_append_right _ (List.mem_append_right _ (List.mem_append_right _ (List.mem_append_right _ (List.mem_append_right _ (List.mem_append_right _ (List.mem_append_right _ (List.mem_append_right _ (List.mem_append_right _ (List.mem_append_left _ h))))))))))))))))))))))))))))))))))))))))))))))))))))))
theorem wI_r42 : ∀ w ∈ wsL_law_r42, w ∈ wsL_law := fun _ h => List.mem_append_left _ (List.mem_append_left _ (List.mem_append_left _ (List.mem_append_left _ (List.mem_append_left _ (List.mem_append_left _ (List.mem_append_left _ (List.mem_append_left _ (List.mem_append_left _ (List.mem_append_left _ (List.mem_append_left _ (List.mem_append_left _ (List.mem_append_left _ (List.mem_append_left _ (List.mem_append_right _ (List.mem_append_right _ (List.mem_append_right _ (List.mem_append_right _ (List.mem_append_right _ (List.mem_append_right _ (List.mem_append_right _ (List.mem_append_right _ (List.mem_append_right _ (List.mem_append_right _ (List.mem_append_right _ (List.mem_append_right _ (List.mem_append_right _ (List.mem_append_right _ (List.mem_append_right _ (List.mem_append_right _ (List.mem_append_right _ (List.mem_append_right _ (List.mem_append_right _ (List.mem_append_right _ (List.mem_append_right _ (List.mem_append_right _ (List.mem_append_right _ (List.mem_append_right _ (List.mem_append_right _ (List.mem_append_right _ (List.mem_append_right _ (List.mem_append_right _ (List.mem_append_right _ (List.mem_append_right _ (List.mem_append_right _ (List.mem_append_right _ (List.mem_append_right _ (List.mem_append_right _ (List.mem_append_right _ (List.mem_append_right _ (List.mem_append_right _ (List.mem_append_right _ (List.mem_append_right _ (List.mem_append_right _ (List.mem_append_right _ (List.mem_append_left _ h)))))))))))))))))))))))))))))))))))))))))))))))))))))))
theorem wI_r43 : ∀ w ∈ wsL_law_r43, w ∈ wsL_law := fun _ h => List.mem_append_left _ (List.mem_append_left _ (List.mem_append_left _ (List.mem_append_left _ (List.mem_append_left _ (List.mem_append_left _ (List.mem_append_left _ (List.mem_append_left _ (List.mem_append_left _ (List.mem_append_left _ (List.mem_append_left _ (List.mem_append_left _ (List.mem_append_left _ (List.mem_append_left _ (List.mem_append_right _ (List.mem_append_right _ (List.mem_append_right _ (List.mem_append_right _ (List.mem_append_right _ (List.mem_append_right _ (List.mem_append_right _ (List.mem_append_right _ (List.mem_append_right _ (List.mem_append_right _ (List.mem_append_right _ (List.mem_append_right _ (List.mem_append_right _ (List.mem_append_right _ (List.mem_append_right _ (List.mem_append_right _ (List.mem_append_right _ (List.mem_append_right _ (List.mem_append_right _ (List.mem_append_right _ (List.mem_append_right _ (List.mem_append_right _ (List.mem_append_right _ (List.mem_append_right _ (List.mem_append_right _ (List.mem_append_right _ (List.mem_append_right _ (List.mem_append_right _ (List.mem_append_right _ (List.mem_append_right _ (List.mem_append_right _ (List.mem_append_right _ (List.mem_append_right _ (List.mem_append_right _ (List.mem_append_right _ (List.mem_append_right _ (List.mem_append_right _ (List.mem_append_right _ (List.mem_append_right _ (List.mem_append_right _ (List.mem_append_right _ (List.mem_append_right _ (List.mem_append_left _ h))))))))))))))))))))))))))))))))))))))))))))))))))))))))
theorem wI_r44 : ∀ w ∈ wsL_law_r44, w ∈ wsL_law := fun _ h => List.mem_append_left _ (List.mem_append_left _ (List.mem_append_left _ (List.mem_append_left _ (List.mem_append_left _ (List.mem_append_left _ (List.mem_append_left _ (List.mem_append_left _ (List.mem_append_left _ (List.mem_append_left _ (List.mem_append_left _ (List.mem_append_left _ (List.mem_append_left _ (List.mem_append_left _ (List.mem_append_right _ (List.mem_append_right _ (List.mem_append_right _ (List.mem_append_right _ (List.mem_append_right _ (List.mem_append_right _ (List.mem_append_right _ (List.mem_append_right _ (List.mem_append_right _ (List.mem_append_right _ (List.mem_append_right _ (List.mem_append_right _ (List.mem_append_right _ (List.mem_append_right _ (List.mem_append_right _ (List.mem_append_right _ (List.mem_append_right _ (List.mem_append_right _ (List.mem_append_right _ (List.mem_append_right _ (List.mem_append_right _ (List.mem_append_right _ (List.mem_append_right _ (List.mem_append_right _ (List.mem_append_right _ (List.mem_append_right _ (List.mem_append_right _ (List.mem_append_right _ (List.mem_append_right _ (List.mem_append_right _ (List.mem_append_right _ (List.mem_append_right _ (List.mem_append_right _ (List.mem_append_right _ (List.mem_append_right _ (List.mem_append_right _ (List.mem_append_right _ (List.mem_append_right _ (List.mem_append_right _ (List.mem_append_right _ (List.mem_append_right _ (List.mem_append_right _ (List.mem_append_right _ (List.mem_append_left _ h)))))))))))))))))))))))))))))))))))))))))))))))))))))))))
theorem wI_r45 : ∀ w ∈ wsL_law_r45, w ∈ wsL_law := fun _ h => List.mem_append_left _ (List.mem_append_left _ (List.mem_append_left _ (List.mem_append_left _ (List.mem_append_left _ (List.mem_append_left _ (List.mem_append_left _ (List.mem_append_left _ (List.mem_append_left _ (List.mem_append_left _ (List.mem_append_left _ (List.mem_append_left _ (List.mem_append_left _ (List.mem_append_left _ (List.mem_append_right _ (List.mem_append_right _ (List.mem_append_right _ (List.mem_append_right _ (List.mem_append_right _ (List.mem_append_right _ (List.mem_append_right _ (List.mem_append_right _ (List.mem_append_right _ (List.mem_append_right _ (List.mem_append_right _ (List.mem_append_right _ (List.mem_append_right _ (List.mem_append_right _ (List.mem_append_right _ (List.mem_append_right _ (List.mem_append_right _ (List.mem_append_right _ (List.mem_append_right _ (List.mem_append_right _ (List.mem_append_right _ (List.mem_append_right _ (List.mem_append_right _ (List.mem_append_right _ (List.mem_append_right _ (List.mem_append_right _ (List.mem_append_right _ (List.mem_append_right _ (List.mem_append_right _ (List.mem_append_right _ (List.mem_append_right _ (List.mem_append_right _ (List.mem_append_right _ (List.mem_append_right _ (List.mem_append_right _ (List.mem_append_right _ (List.mem_append_right _ (List.mem_append_right _ (List.mem_append_right _ (List.mem_append_right _ (List.mem_append_right _ (List.mem_append_right _ (List.mem_append_right _ (List.mem_append_right _ (List.mem_append_left _ h))))))))))))))))))))))))))))))))))))))))))))))))))))))))))
theorem wI_r46 : ∀ w ∈ wsL_law_r46, w ∈ wsL_law := fun _ h => List.mem_append_left _ (List.mem_append_left _ (List.mem_append_left _ (List.mem_append_left _ (List.mem_append_left _ (List.mem_append_left _ (List.mem_append_left _ (List.mem_append_left _ (List.mem_append_left _ (List.mem_append_left _ (List.mem_append_left _ (List.mem_append_left _ (List.mem_append_left _ (List.mem_append_left _ (List.mem_append_right _ (List.mem_append_right _ (List.mem_append_right _ (List.mem_append_right _ (List.mem_append_right _ (List.mem_append_right _ (List.mem_append_right _ (List.mem_append_right _ (List.mem_append_right _ (List.mem_append_right _ (List.mem_append_right _ (List.mem_append_right _ (List.mem_append_right _ (List.mem_append_right _ (List.mem_append_right _ (List.mem_append_right _ (List.mem_append_right _ (List.mem_append_right _ (List.mem_append_right _ (List.mem_append_right _ (List.mem_append_right _ (List.mem_append_right _ (List.mem_append_right _ (List.mem_append_right _ (List.mem_append_right _ (List.mem_append_right _ (List.mem_append_right _ (List.mem_append_right _ (List.mem_append_right _ (List.mem_append_right _ (List.mem_append_right _ (List.mem_append_right _ (List.mem_append_right _ (List.mem_append_right _ (List.mem_append_right _ (List.mem_append_right _ (List.mem_append_right _ (List.mem_append_right _ (List.mem_append_right _ (List.mem_append_right _ (List.mem_append_right _ (List.mem_append_right _ (List.mem_append_right _ (List.mem_append_right _ (List.mem_append_right _ (List.mem_append_left _ h)))))))))))))))))))))))))))))))))))))))))))))))))))))))))))
theorem wI_r47 : ∀ w ∈ wsL_law_r47, w ∈ wsL_law := fun _ h => List.mem_append_left _ (List.mem_append_left _ (List.mem_append_left _ (List.mem_append_left _ (List.mem_append_left _ (List.mem_append_left _ (List.mem_append_left _ (List.mem_append_left _ (List.mem_append_left _ (List.mem_append_left _ (List.mem_append_left _ (List.mem_append_left _ (List.mem_append_left _ (List.mem_append_left _ (List.mem_append_right _ (List.mem_append_right _ (List.mem_append_right _ (List.mem_append_right _ (List.mem_append_right _ (List.mem_append_right _ (List.mem_append_right _ (List.mem_append_right _ (List.mem_append_right _ (List.mem_append_right _ (List.mem_append_right _ (List.mem_append_right _ (List.mem_append_right _ (List.mem_append_right _ (List.mem_append_right _ (List.mem_append_right _ (List.mem_append_right _ (List.mem_append_right _ (List.mem_append_right _ (List.mem_append_right _ (List.mem_append_right _ (List.mem_append_right _ (List.mem_append_right _ (List.mem_append_right _ (List.mem_append_right _ (List.mem_append_right _ (List.mem_append_right _ (List.mem_append_right _ (List.mem_append_right _ (List.mem_append_right _ (List.mem_append_right _ (List.mem_append_right _ (List.mem_append_right _ (List.mem_append_right _ (List.mem_append_right _ (List.mem_append_right _ (List.mem_append_right _ (List.mem_append_right _ (List.mem_append_right _ (List.mem_append_right _ (List.mem_append_right _ (List.mem_append_right _ (List.mem_append_right _ (List.mem_append_right _ (List.mem_append_right _ (List.mem_append_right _ (List.mem_append_left _ h))))))))))))))))))))))))))))))))))))))))))))))))))))))))))))
theorem wI_r48 : ∀ w ∈ wsL_law_r48, w ∈ wsL_law := fun _ h => List.mem_append_left _ (List.mem_append_left _ (List.mem_append_left _ (List.mem_append_left _ (List.mem_append_left _ (List.mem_append_left _ (List.mem_append_left _ (List.mem_append_left _ (List.mem_append_left _ (List.mem_append_left _ (List.mem_append_left _ (List.mem_append_left _ (List.mem_append_left _ (List.mem_append_left _ (List.mem_append_right _ (List.mem_append_right _ (List.mem_append_right _ (List.mem_append_right _ (List.mem_append_right _ (List.mem_append_right _ (List.mem_append_right _ (List.mem_append_right _ (List.mem_append_right _ (List.mem_append_right _ (List.mem_append_right _ (List.mem_append_right _ (List.mem_append_right _ (List.mem_append_right _ (List.mem_append_right _ (List.mem_append_right _ (List.mem_append_right _ (List.mem_append_right _ (List.mem_append_right _ (List.mem_append_right _ (List.mem_append_right _ (List.mem_append_right _ (List.mem_append_right _ (List.mem_append_right _ (List.mem_append_right _ (List.mem_append_right _ (List.mem_append_right _ (List.mem_append_right _ (List.mem_append_right _ (List.mem_append_right _ (List.mem_append_right _ (List.mem_append_right _ (List.mem_append_right _ (List.mem_append_right _ (List.mem_append_right _ (List.mem_append_right _ (List.mem_append_right _ (List.mem_append_right _ (List.mem_append_right _ (List.mem_append_right _ (List.mem_append_right _ (List.mem_append_right _ (List.mem_append_right _ (List.mem_append_right _ (List.mem_append_right _ (List.mem_append_right _ (List.mem_append_right _ (List.mem_append_left _ h)))))))))))))))))))))))))))))))))))))))))))))))))))))))))))))
theorem wI_r49 : ∀ w ∈ wsL_law_r49, w ∈ wsL_law := fun _ h => List.mem_append_left _ (List.mem_append_left _ (List.mem_append_left _ (List.mem_append_left _ (List.mem_append_left _ (List.mem_append_left _ (List.mem_append_left _ (List.mem_append_left _ (List.mem_append_left _ (List.mem_append_left _ (List.mem_append_left _ (List.mem_append_left _ (List.mem_append_left _ (List.mem_append_left _ (List.mem_append_right _ (List.mem_append_right _ (List.mem_append_right _ (List.mem_append_right _ (List.mem_append_right _ (List.mem_append_right _ (List.mem_append_right _ (List.mem_append_right _ (List.mem_append_right _ (List.mem_append_right _ (List.mem_append_right _ (List.mem_append_right _ (List.mem_append_right _ (List.mem_append_right _ (List.mem_append_right _ (List.mem_append_right _ (List.mem_append_right _ (List.mem_append_right _ (List.mem_append_right _ (List.mem_append_right _ (List.mem_append_right _ (List.mem_append_right _ (List.mem_append_right _ (List.mem_append_right _ (List.mem_append_right _ (List.mem_append_right _ (List.mem_append_right _ (List.mem_append_right _ (List.mem_append_right _ (List.mem_append_right _ (List.mem_append_right _ (List.mem_append_right _ (List.mem_append_right _ (List.mem_append_right _ (List.mem_append_right _ (List.mem_append_right _ (List.mem_append_right _ (List.mem_append_right _ (List.mem_append_right _ (List.mem_append_right _ (List.mem_append_right _ (List.mem_append_right _ (List.mem_append_right _ (List.mem_append_right _ (List.mem_append_right _ (List.mem_append_right _ (List.mem_append_right _ (List.mem_append_right _ (List.mem_append_left _ h))))))))))))))))))))))))))))))))))))))))))))))))))))))))))))))
theorem wI_r50 : ∀ w ∈ wsL_law_r50, w ∈ wsL_law := fun _ h => List.mem_append_left _ (List.mem_append_left _ (List.mem_append_left _ (List.mem_append_left _ (List.mem_append_left _ (List.mem_append_left _ (List.mem_append_left _ (List.mem_append_left _ (List.mem_append_left _ (List.mem_append_left _ (List.mem_append_left _ (List.mem_append_left _ (List.mem_append_left _ (List.mem_append_left _ (List.mem_append_right _ (List.mem_append_right _ (List.mem_append_right _ (List.mem_append_right _ (List.mem_append_right _ (List.mem_append_right _ (List.mem_append_right _ (List.mem_append_right _ (List.mem_append_right _ (List.mem_append_right _ (List.mem_append_right _ (List.mem_append_right _ (List.mem_append_right _ (List.mem_append_right _ (List.mem_append_right _ (List.mem_append_right _ (List.mem_append_right _ (List.mem_append_right _ (List.mem_append_right _ (List.mem_append_right _ (List.mem_append_right _ (List.mem_append_right _ (List.mem_append_right _ (List.mem_append_right _ (List.mem_append_right _ (List.mem_append_right _ (List.mem_append_right _ (List.mem_append_right _ (List.mem_append_right _ (List.mem_append_right _ (List.mem_append_right _ (List.mem_append_right _ (List.mem_append_right _ (List.mem_append_right _ (List.mem_append_right _ (List.mem_append_right _ (List.mem_append_right _ (List.mem_append_right _ (List.mem_append_right _ (List.mem_append_right _ (List.mem_append_right _ (List.mem_append_right _ (List.mem_append_right _ (List.mem_append_right _ (List.mem_append_right _ (List.mem_append_right _ (List.mem_append_right _ (List.mem_append_right _ (List.mem_append_right _ (List.mem_append_left _ h)))))))))))))))))))))))))))))))))))))))))))))))))))))))))))))))
theorem wI_r51 : ∀ w ∈ wsL_law_r51, w ∈ wsL_law := fun _ h => List.mem_append_left _ (List.mem_append_left _ (List.mem_append_left _ (List.mem_append_left _ (List.mem_append_left _ (List.mem_append_left _ (List.mem_append_left _ (List.mem_append_left _ (List.mem_append_left _ (List.mem_append_left _ (List.mem_append_left _ (List.mem_append_left _ (List.mem_append_left _ (List.mem_append_left _ (List.mem_append_right _ (List.mem_append_right _ (List.mem_append_right _ (List.mem_append_right _ (List.mem_append_right _ (List.mem_append_right _ (List.mem_append_right _ (List.mem_append_right _ (List.mem_append_right _ (List.mem_append_right _ (List.mem_append_right _ (List.mem_append_right _ (List.mem_append_right _ (List.mem_append_right _ (List.mem_append_right _ (List.mem_append_right _ (List.mem_append_right _ (List.mem_append_right _ (List.mem_append_right _ (List.mem_append_right _ (List.mem_append_right _ (List.mem_append_right _ (List.mem_append_right _ (List.mem_append_right _ (List.mem_append_right _ (List.mem_append_right _ (List.mem_append_right _ (List.mem_append_right _ (List.mem_append_right _ (List.mem_append_right _ (List.mem_append_right _ (List.mem_append_right _ (List.mem_append_right _ (List.mem_append_right _ (List.mem_append_right _ (List.mem_append_right _ (List.mem_append_right _ (List.mem_append_right _ (List.mem_append_right _ (List.mem_append_right _ (List.mem_append_right _ (List.mem_append_right _ (List.mem_append_right _ (List.mem_append_right _ (List.mem_append_right _ (List.mem_append_right _ (List.mem_append_right _ (List.mem_append_right _ (List.mem_append_right _ (List.mem_append_right _ (h))))))))))))))))))))))))))))))))))))))))))))))))))))))))))))))))
theorem wI_X11 : ∀ w ∈ wsX110, w ∈ wsL_law := fun _ h => List.mem_append_left _ (List.mem_append_left _ (List.mem_append_left _ (List.mem_append_left _ (List.mem_append_left _ (List.mem_append_left _ (List.mem_append_left _ (List.mem_append_left _ (List.mem_append_left _ (List.mem_append_left _ (List.mem_append_left _ (List.mem_append_left _ (List.mem_append_left _ (List.mem_append_right _ h)))))))))))))
theorem wI_X12 : ∀ w ∈ wsX120, w ∈ wsL_law := fun _ h => List.mem_append_left _ (List.mem_append_left _ (List.mem_append_left _ (List.mem_append_left _ (List.mem_append_left _ (List.mem_append_left _ (List.mem_append_left _ (List.mem_append_left _ (List.mem_append_left _ (List.mem_append_left _ (List.mem_append_left _ (List.mem_append_left _ (List.mem_append_right _ h))))))))))))
theorem wI_X3 : ∀ w ∈ wsX30, w ∈ wsL_law := fun _ h => List.mem_append_left _ (List.mem_append_left _ (List.mem_append_left _ (List.mem_append_left _ (List.mem_append_left _ (List.mem_append_left _ (List.mem_append_left _ (List.mem_append_left _ (List.mem_append_left _ (List.mem_append_left _ (List.mem_append_left _ (List.mem_append_right _ h)))))))))))
theorem wI_X10 : ∀ w ∈ wsX100, w ∈ wsL_law := fun _ h => List.mem_append_left _ (List.mem_append_left _ (List.mem_append_left _ (List.mem_append_left _ (List.mem_append_left _ (List.mem_append_left _ (List.mem_append_left _ (List.mem_append_left _ (List.mem_append_left _ (List.mem_append_left _ (List.mem_append_right _ h))))))))))
theorem wI_X6 : ∀ w ∈ wsX60, w ∈ wsL_law := fun _ h => List.mem_append_left _ (List.mem_append_left _ (List.mem_append_left _ (List.mem_append_left _ (List.mem_append_left _ (List.mem_append_left _ (List.mem_append_left _ (List.mem_append_left _ (List.mem_append_left _ (List.mem_append_right _ h)))))))))
theorem wI_X2 : ∀ w ∈ wsX20, w ∈ wsL_law := fun _ h => List.mem_append_left _ (List.mem_append_left _ (List.mem_append_left _ (List.mem_append_left _ (List.mem_append_left _ (List.mem_append_left _ (List.mem_append_left _ (List.mem_append_left _ (List.mem_append_right _ h))))))))
theorem wI_X5 : ∀ w ∈ wsX50, w ∈ wsL_law := fun _ h => List.mem_append_left _ (List.mem_append_left _ (List.mem_append_left _ (List.mem_append_left _ (List.mem_append_left _ (List.mem_append_left _ (List.mem_append_left _ (List.mem_append_right _ h)))))))
theorem wI_X1 : ∀ w ∈ wsX10, w ∈ wsL_law := fun _ h => List.mem_append_left _ (List.mem_append_left _ (List.mem_append_left _ (List.mem_append_left _ (List.mem_append_left _ (List.mem_append_left _ (List.mem_append_right _ h))))))
theorem wI_X0 : ∀ w ∈ wsX00, w ∈ wsL_law := fun _ h => List.mem_append_left _ (List.mem_append_left _ (List.mem_append_left _ (List.mem_append_left _ (List.mem_append_left _ (List.mem_append_right _ h)))))
theorem wI_X8 : ∀ w ∈ wsX80, w ∈ wsL_law := fun _ h => List.mem_append_left _ (List.mem_append_left _ (List.mem_append_left _ (List.mem_append_left _ (List.mem_append_right _ h))))
theorem wI_X9 : ∀ w ∈ wsX90, w ∈ wsL_law := fun _ h => List.mem_append_left _ (List.mem_append_left _ (List.mem_append_left _ (List.mem_append_right _ h)))
theorem wI_X7 : ∀ w ∈ wsX70, w ∈ wsL_law := fun _ h => List.mem_append_left _ (List.mem_append_left _ (List.mem_append_right _ h))
theorem wI_X4 : ∀ w ∈ wsX40, w ∈ wsL_law := fun _ h => List.mem_append_left _ (List.mem_append_right _ h)
end
section
/-! ===== the abstract heap: cells by their place since the law began; ints, longs and references apart ===== -/
abbrev aSt : Type := (Nat → Nat → Int32) × (Nat → Nat → Int64) × (Nat → Nat → Option Nat) × Nat
def gI (σ : aSt) : Nat → Nat → Int32 := σ.1
def gL (σ : aSt) : Nat → Nat → Int64 := σ.2.1
def gR (σ : aSt) : Nat → Nat → Option Nat := σ.2.2.1
def gN (σ : aSt) : Nat := σ.2.2.2
def sI (σ : aSt) (a k : Nat) (v : Int32) : aSt := (fun x => if x = a then upd (σ.1 a) k v else σ.1 x, σ.2.1, σ.2.2.1, σ.2.2.2)
def sL (σ : aSt) (a k : Nat) (v : Int64) : aSt := (σ.1, fun x => if x = a then vp_updL (σ.2.1 a) k v else σ.2.1 x, σ.2.2.1, σ.2.2.2)
def sR (σ : aSt) (a k : Nat) (v : Option Nat) : aSt := (σ.1, σ.2.1, fun x => if x = a then va_up (σ.2.2.1 a) k v else σ.2.2.1 x, σ.2.2.2)
def sC (σ : aSt) (a sp b dp n : Nat) : aSt := (fun x => if x = b then va_cpy (σ.1 a) (σ.1 b) sp dp n else σ.1 x, σ.2.1, σ.2.2.1, σ.2.2.2)
def sN (σ : aSt) : aSt := (fun x => if x = σ.2.2.2 then (fun _ => 0) else σ.1 x, fun x => if x = σ.2.2.2 then (fun _ => 0) else σ.2.1 x, fun x => if x = σ.2.2.2 then (fun _ => none) else σ.2.2.1 x, σ.2.2.2 + 1)
theorem gI_sI (σ : aSt) (a k : Nat) (v : Int32) (b j : Nat) : gI (sI σ a k v) b j = if b = a then (if j = k then v else gI σ a j) else gI σ b j := by
  unfold gI sI upd
  by_cases h : b = a <;> simp [h]
theorem gI_sIr (σ : aSt) (a k : Nat) (v : Int32) (b : Nat) : gI (sI σ a k v) b = if b = a then upd (gI σ a) k v else gI σ b := rfl
theorem gL_sI (σ : aSt) (a k : Nat) (v : Int32) : gL (sI σ a k v) = gL σ := rfl
theorem gR_sI (σ : aSt) (a k : Nat) (v : Int32) : gR (sI σ a k v) = gR σ := rfl
theorem gN_sI (σ : aSt) (a k : Nat) (v : Int32) : gN (sI σ a k v) = gN σ := rfl
theorem gL_sL (σ : aSt) (a k : Nat) (v : Int64) (b j : Nat) : gL (sL σ a k v) b j = if b = a then (if j = k then v else gL σ a j) else gL σ b j := by
  unfold gL sL vp_updL
  by_cases h : b = a <;> simp [h]
theorem gL_sLr (σ : aSt) (a k : Nat) (v : Int64) (b : Nat) : gL (sL σ a k v) b = if b = a then vp_updL (gL σ a) k v else gL σ b := rfl
theorem gI_sL (σ : aSt) (a k : Nat) (v : Int64) : gI (sL σ a k v) = gI σ := rfl
theorem gR_sL (σ : aSt) (a k : Nat) (v : Int64) : gR (sL σ a k v) = gR σ := rfl
theorem gN_sL (σ : aSt) (a k : Nat) (v : Int64) : gN (sL σ a k v) = gN σ := rfl
theorem gR_sR (σ : aSt) (a k : Nat) (v : Option Nat) (b j : Nat) : gR (sR σ a k v) b j = if b = a then (if j = k then v else gR σ a j) else gR σ b j := by
  unfold gR sR va_up
  by_cases h : b = a <;> simp [h]
theorem gR_sRr (σ : aSt) (a k : Nat) (v : Option Nat) (b : Nat) : gR (sR σ a k v) b = if b = a then va_up (gR σ a) k v else gR σ b := rfl
theorem gI_sR (σ : aSt) (a k : Nat) (v : Option Nat) : gI (sR σ a k v) = gI σ := rfl
theorem gL_sR (σ : aSt) (a k : Nat) (v : Option Nat) : gL (sR σ a k v) = gL σ := rfl
theorem gN_sR (σ : aSt) (a k : Nat) (v : Option Nat) : gN (sR σ a k v) = gN σ := rfl
theorem gI_sC (σ : aSt) (a sp b dp n x : Nat) : gI (sC σ a sp b dp n) x = if x = b then va_cpy (gI σ a) (gI σ b) sp dp n else gI σ x := rfl
theorem gL_sC (σ : aSt) (a sp b dp n : Nat) : gL (sC σ a sp b dp n) = gL σ := rfl
theorem gR_sC (σ : aSt) (a sp b dp n : Nat) : gR (sC σ a sp b dp n) = gR σ := rfl
theorem gN_sC (σ : aSt) (a sp b dp n : Nat) : gN (sC σ a sp b dp n) = gN σ := rfl
theorem gI_sN (σ : aSt) (x : Nat) : gI (sN σ) x = if x = gN σ then (fun _ => 0) else gI σ x := rfl
theorem gL_sN (σ : aSt) (x : Nat) : gL (sN σ) x = if x = gN σ then (fun _ => 0) else gL σ x := rfl
theorem gR_sN (σ : aSt) (x : Nat) : gR (sN σ) x = if x = gN σ then (fun _ => none) else gR σ x := rfl
theorem gN_sN (σ : aSt) : gN (sN σ) = gN σ + 1 := rfl
/-! the shape: kinds 0 to 12 are the classes of vwCl; 13 int[], 14 byte[], 15 long[], 16 Sheet[], 17 Payment[] -/
def aShp : List (Nat × Nat) := [(11, 0), (16, 8), (3, 0), (17, 1000), (17, 120), (10, 0), (13, 601), (13, 601), (13, 601), (14, 600), (6, 0), (2, 0), (8, 0), (13, 4), (13, 12), (13, 12), (13, 48), (13, 48), (13, 48), (17, 120), (7, 0), (13, 10), (13, 20), (13, 240), (13, 240), (15, 120), (5, 0), (13, 120), (13, 120), (13, 121), (13, 4096), (1, 0), (0, 0), (13, 16), (8, 0), (13, 4), (13, 12), (13, 12), (13, 48), (13, 48), (13, 48), (9, 0), (13, 120), (9, 0), (13, 120), (9, 0), (13, 120), (9, 0), (13, 120), (9, 0), (13, 120), (9, 0), (13, 120), (9, 0), (13, 120), (9, 0), (13, 120), (12, 0), (13, 8), (13, 8), (13, 960), (13, 120), (13, 120), (13, 120), (13, 120), (13, 120), (13, 120), (13, 120), (13, 120), (13, 10), (13, 12), (13, 12), (13, 144), (13, 12), (13, 12), (13, 144), (13, 4), (13, 600), (13, 120), (13, 120), (13, 2), (13, 120), (15, 1681), (13, 16)]
def aFtab : List (List Nat) := [[3, 0, 2, 0, 0], [0, 0, 0, 0], [2, 3, 0, 3, 3, 3, 3, 3], [3, 3, 0, 0], [0, 0, 0, 0, 0, 0, 0, 0], [0, 0, 0, 0, 1, 3, 3, 3, 3, 0, 3, 0, 3], [0, 0, 3, 2, 0, 0, 0], [3, 0, 3, 0, 0, 0, 0], [3, 0, 3, 3, 3, 3, 3], [3, 0, 0, 0], [3, 3, 3, 0, 3, 0], [3, 3, 3, 3, 3, 3, 3, 3, 2, 0, 0], [0, 0, 3, 3, 3, 0, 3, 3, 3, 3, 3, 3, 3, 3, 0, 0, 0, 0, 0, 3, 0, 3, 3, 3, 0, 3, 3, 3, 3, 3, 0, 0, 0, 0, 0, 0, 0, 0, 0, 3, 0, 3, 3, 3, 3, 3, 0]]
def aKtab : List (List Nat) := [[33, 0, 0, 0, 0], [0, 0, 0, 0], [0, 19, 0, 2, 20, 23, 24, 25], [3, 4, 0, 0], [0, 0, 0, 0, 0, 0, 0, 0], [0, 0, 0, 0, 0, 2, 11, 27, 28, 0, 29, 0, 30], [0, 0, 5, 0, 0, 0, 0], [21, 0, 22, 0, 0, 0, 0], [1, 0, 2, 3, 4, 5, 6], [1, 0, 0, 0], [6, 7, 8, 0, 9, 0], [1, 2, 5, 10, 11, 26, 31, 32, 0, 0, 0], [0, 0, 58, 59, 60, 0, 61, 62, 63, 64, 65, 66, 67, 68, 0, 0, 0, 0, 0, 69, 0, 70, 71, 72, 0, 73, 74, 75, 76, 77, 0, 0, 0, 0, 0, 0, 0, 0, 0, 78, 0, 79, 80, 81, 82, 83, 0]]
def aSh (a : Nat) : Nat := (aShp.getD a (4, 0)).1
def aLn (a : Nat) : Nat := (aShp.getD a (4, 0)).2
def aFt (c k : Nat) : Nat := (aFtab.getD c []).getD k 0
def aNf (c : Nat) : Nat := (aFtab.getD c []).length
def aKr (c k a : Nat) : Nat := if c = 8 ∨ c = 9 then a + (aKtab.getD c []).getD k 0 else (aKtab.getD c []).getD k 0
theorem aSh_pay {a : Nat} (h : 84 ≤ a) : aSh a = 4 := by
  have h1 : aShp[a]? = none := List.getElem?_eq_none (Nat.le_trans (by decide : aShp.length ≤ 84) h)
  simp [aSh, List.getD, h1]
/-- the place of the world: where it begins, the classes' numbers and slots, the array classes, the words' constant -/
abbrev aZ : Type := Nat × va_G × (ClassId × ClassId × ClassId × ClassId × ClassId) × Nat × Nat
def aA (Z : aZ) : Nat → Prop := fun q => Z.1 ≤ q
def aTys (Z : aZ) : List (ClassId × FieldType) := [(Z.2.2.1.1, .int), (Z.2.2.1.2.1, .byte), (Z.2.2.1.2.2.1, .long), (Z.2.2.1.2.2.2.1, .object RX9), (Z.2.2.1.2.2.2.2, .object RX4)]
def aOf (Z : aZ) (r : Option Nat) : Option Nat := r.map (fun i => Z.1 + i)
def aFv (md : Bool) (Z : aZ) (σ : aSt) (c a k : Nat) : Value :=
  if aFt c k = 0 then .int (gI σ a k) else if aFt c k = 1 then .long (gL σ a k) else if aFt c k = 3 ∧ md = true then .ref (Z.1 + aKr c k a) else va_rf (aOf Z (gR σ a k))
def aCell (md : Bool) (Z : aZ) (σ : aSt) (a : Nat) : va_E :=
  if aSh a = 13 then .inl (Z.2.2.1.1, aLn a, .inl (gI σ a))
  else if aSh a = 14 then .inl (Z.2.2.1.2.1, aLn a, .inl (gI σ a))
  else if aSh a = 15 then .inl (Z.2.2.1.2.2.1, aLn a, .inr (.inl (gL σ a)))
  else if aSh a = 16 then .inl (Z.2.2.1.2.2.2.1, aLn a, .inr (.inr (.inr (.inr (fun j => if md = true then some (Z.1 + (41 + 2 * j)) else aOf Z (gR σ a j))))))
  else if aSh a = 17 then .inl (Z.2.2.1.2.2.2.2, aLn a, .inr (.inr (.inr (.inr (fun j => aOf Z (gR σ a j))))))
  else .inr (aSh a, (List.range (aNf (aSh a))).map (aFv md Z σ (aSh a) a))
def aWs (md : Bool) (Z : aZ) (σ : aSt) : va_W := (List.range (gN σ)).map (fun i => (Z.1 + i, aCell md Z σ i))
theorem aWs_get {md : Bool} {Z : aZ} {σ : aSt} {i : Nat} (h : i < gN σ) : (aWs md Z σ)[i]? = some (Z.1 + i, aCell md Z σ i) := by
  simp [aWs, List.getElem?_map, List.getElem?_range h]
theorem aWs_set {md : Bool} {Z : aZ} {σ σ' : aSt} {i : Nat} {e : va_E} (h : i < gN σ) (hn : gN σ' = gN σ) (hi : aCell md Z σ' i = e) (hj : ∀ j, j ≠ i → aCell md Z σ' j = aCell md Z σ j) : (aWs md Z σ).set i (Z.1 + i, e) = aWs md Z σ' := by
  apply List.ext_getElem?
  intro k
  rw [List.getElem?_set]
  by_cases hk : i = k
  · subst hk
    have hl : i < (aWs md Z σ).length := by simp [aWs, h]
    rw [if_pos rfl, if_pos hl, aWs_get (by rw [hn]; exact h), hi]
  · rw [if_neg hk]
    by_cases h2 : k < gN σ
    · rw [aWs_get h2, aWs_get (by rw [hn]; exact h2), hj k (fun q => hk q.symm)]
    · rw [List.getElem?_eq_none (by simp [aWs]; omega), List.getElem?_eq_none (by simp [aWs]; omega)]
theorem aWs_push {md : Bool} {Z : aZ} {σ σ' : aSt} {e : va_E} (hn : gN σ' = gN σ + 1) (hi : aCell md Z σ' (gN σ) = e) (hj : ∀ j, j < gN σ → aCell md Z σ' j = aCell md Z σ j) : aWs md Z σ ++ [(Z.1 + gN σ, e)] = aWs md Z σ' := by
  unfold aWs
  rw [hn, List.range_succ, List.map_append]
  congr 1
  · apply List.map_congr_left
    intro j hjm
    rw [hj j (List.mem_range.mp hjm)]
  · simp [hi]
theorem aCell_ext {md : Bool} {Z : aZ} {σ σ' : aSt} {j : Nat} (h1 : gI σ' j = gI σ j) (h2 : gL σ' j = gL σ j) (h3 : gR σ' j = gR σ j) : aCell md Z σ' j = aCell md Z σ j := by
  have hf : aFv md Z σ' (aSh j) j = aFv md Z σ (aSh j) j := by
    funext k
    simp only [aFv, h1, h2, h3]
  simp only [aCell, h1, h2, h3, hf]
theorem aCell_obj {md : Bool} {Z : aZ} {σ : aSt} {a c : Nat} (h : aSh a = c) (hc : c < 13) : aCell md Z σ a = .inr (c, (List.range (aNf c)).map (aFv md Z σ c a)) := by
  subst h
  unfold aCell
  rw [if_neg (by omega), if_neg (by omega), if_neg (by omega), if_neg (by omega), if_neg (by omega)]
theorem aCell_i {md : Bool} {Z : aZ} {σ : aSt} {a : Nat} (h : aSh a = 13) : aCell md Z σ a = .inl (Z.2.2.1.1, aLn a, .inl (gI σ a)) := by
  unfold aCell
  rw [if_pos h]
theorem aCell_b {md : Bool} {Z : aZ} {σ : aSt} {a : Nat} (h : aSh a = 14) : aCell md Z σ a = .inl (Z.2.2.1.2.1, aLn a, .inl (gI σ a)) := by
  unfold aCell
  rw [if_neg (by omega), if_pos h]
theorem aCell_l {md : Bool} {Z : aZ} {σ : aSt} {a : Nat} (h : aSh a = 15) : aCell md Z σ a = .inl (Z.2.2.1.2.2.1, aLn a, .inr (.inl (gL σ a))) := by
  unfold aCell
  rw [if_neg (by omega), if_neg (by omega), if_pos h]
theorem aCell_s {md : Bool} {Z : aZ} {σ : aSt} {a : Nat} (h : aSh a = 16) : aCell md Z σ a = .inl (Z.2.2.1.2.2.2.1, aLn a, .inr (.inr (.inr (.inr (fun j => if md = true then some (Z.1 + (41 + 2 * j)) else aOf Z (gR σ a j)))))) := by
  unfold aCell
  rw [if_neg (by omega), if_neg (by omega), if_neg (by omega), if_pos h]
theorem aCell_p {md : Bool} {Z : aZ} {σ : aSt} {a : Nat} (h : aSh a = 17) : aCell md Z σ a = .inl (Z.2.2.1.2.2.2.2, aLn a, .inr (.inr (.inr (.inr (fun j => aOf Z (gR σ a j)))))) := by
  unfold aCell
  rw [if_neg (by omega), if_neg (by omega), if_neg (by omega), if_neg (by omega), if_pos h]
/-- the fields of an object with one of them changed -/
theorem aFs_set {n k : Nat} {f g : Nat → Value} {v : Value} (hg : g k = v) (hne : ∀ j, j ≠ k → g j = f j) : ((List.range n).map f).set k v = (List.range n).map g := by
  apply List.ext_getElem?
  intro j
  rw [List.getElem?_set]
  by_cases hk : k = j
  · subst hk
    by_cases h : k < n
    · simp [h, hg]
    · simp [h]
  · rw [if_neg hk]
    by_cases h : j < n
    · simp [List.getElem?_map, List.getElem?_range h, hne j (fun q => hk q.symm)]
    · simp [List.getElem?_map, List.getElem?_eq_none (by simp; omega : (List.range n).length ≤ j)]
theorem aFs_get {n k : Nat} {f : Nat → Value} (h : k < n) : ((List.range n).map f)[k]? = some (f k) := by
  simp [List.getElem?_map, List.getElem?_range h]
theorem aFs_len {n : Nat} {f : Nat → Value} : ((List.range n).map f).length = n := by simp
end
section
/-! ===== the walk over the abstract heap ===== -/
/-- a method: name, bytes, locals, answer, frames, words of locals, cells, slots -/
abbrev aM : Type := MethodName × ByteArray × Nat × Option FieldType × Nat × Nat × Nat × Nat
def aRm (M : aM) : Room := { frames := M.2.2.2.2.1, cells := M.2.2.2.2.2.2.1, slots := M.2.2.2.2.2.2.2, locals := M.2.2.2.2.2.1 }
def aWd (M : aM) : List Cond := .code M.1 M.2.1 M.2.2.1 M.2.2.2.1 :: wsL_law
def aTr (Z : aZ) : Value → Value
  | .ref i => .ref (Z.1 + i)
  | v => v
def aTl (Z : aZ) (q : Nat × Value) : Nat × Value := (q.1, aTr Z q.2)
theorem aTr_cat (Z : aZ) (v : Value) : (aTr Z v).category = v.category := by cases v <;> rfl
theorem aTr_rf (Z : aZ) (r : Option Nat) : aTr Z (va_rf r) = va_rf (aOf Z r) := by cases r <;> rfl
def aTx : String := "window decay  look   block  rule   if     and    amount sort   hour   count  sum    payees seen   ratio  far    into   "
def aTxB : List Int32 := [119, 105, 110, 100, 111, 119, 32, 100, 101, 99, 97, 121, 32, 32, 108, 111, 111, 107, 32, 32, 32, 98, 108, 111, 99, 107, 32, 32, 114, 117, 108, 101, 32, 32, 32, 105, 102, 32, 32, 32, 32, 32, 97, 110, 100, 32, 32, 32, 32, 97, 109, 111, 117, 110, 116, 32, 115, 111, 114, 116, 32, 32, 32, 104, 111, 117, 114, 32, 32, 32, 99, 111, 117, 110, 116, 32, 32, 115, 117, 109, 32, 32, 32, 32, 112, 97, 121, 101, 101, 115, 32, 115, 101, 101, 110, 32, 32, 32, 114, 97, 116, 105, 111, 32, 32, 102, 97, 114, 32, 32, 32, 32, 105, 110, 116, 111, 32, 32, 32]
def aStr (Z : aZ) (U : State) (H : Heap) : Prop := vk_R RX10 65 aTx Z.2.2.2.1 U ∧ vk_S 1 [119] [aTxB] (fun _ => Z.2.2.2.1) (fun _ => Z.2.2.2.2) (aA Z) U H ∧ va_Z "java/lang/String" "COMPACT_STRINGS" "Z" (.int 1) (aA Z) U H ∧ va_Zq "jdk/internal/util/Preconditions" "SIOOBE_FORMATTER" "Ljava/util/function/BiFunction;" (aA Z) U H
theorem aStr.kept {Z : aZ} {U : State} {H H1 : Heap} (h : aStr Z U H) (hq : ∀ a : Nat, a < H.size → ¬ aA Z a → H1[a]? = H[a]?) : aStr Z U H1 := ⟨h.1, h.2.1.kept hq, h.2.2.1.kept hq, h.2.2.2.kept hq⟩
theorem aStr.warm {Z : aZ} {s U : State} {H : Heap} (hW : s.WarmedH U.vm) (h : aStr Z s H) : aStr Z U H := ⟨h.1.warm hW, h.2.1.moved hW.alike, h.2.2.1.moved hW.alike, h.2.2.2.moved hW.alike⟩
theorem aStr.same {Z : aZ} {s U : State} {H : Heap} (hv : s.vm = U.vm) (h : aStr Z s H) : aStr Z U H := ⟨h.1.same hv.symm, h.2.1.moved (hv ▸ Vm.Alike.refl _), h.2.2.1.moved (hv ▸ Vm.Alike.refl _), h.2.2.2.moved (hv ▸ Vm.Alike.refl _)⟩
/-- links to private members of nest mates -/
def aNest : List (String × Nat × MethodName × String) := [(RX11, 17, yX3_init, RX11), (RX11, 24, yX10_init, RX11), (RX2, 30, yX7_init, RX11), (RX11, 58, yX1_init, RX11), (RX11, 65, yX0_init, RX11), (RX11, 84, yX9_init, RX11), (RX3, 27, yX11_within, RX11), (RX6, 60, yX11_within, RX11), (RX2, 74, yX11_within, RX11), (RX8, 41, yX11_within, RX11)]
def aNs (U : State) : Prop := (∀ q ∈ aNest, va_Nw (.methodLinkNest q.1 q.2.1 q.2.2.1 q.2.2.2) U) ∧ va_AO RX9 U ∧ va_AO RX4 U
/-- the world at a state -/
def aWo (md : Bool) (Z : aZ) (σ : aSt) (U : State) : Prop := U.heap.size = Z.1 + gN σ ∧ (md = true → 84 ≤ gN σ) ∧ va_P Z.2.1 vwCl (aWs md Z σ) U.heap ∧ va_D (aA Z) (aWs md Z σ) ∧ va_K Z.2.1 vwCl (aTys Z) U ∧ aNs U ∧ aStr Z U U.heap
def aQ (md : Bool) (Z : aZ) (r : Option Value) (σ' : aSt) : Array Value → State → Outcome → State → Prop := fun _ st o t => o = .returned (r.map (aTr Z)) ∧ aWo md Z σ' t ∧ va_F (aA Z) st t
/-- a method's contract: from this heap it answers r and leaves that heap -/
def AM (md : Bool) (M : aM) (av : List Value) (σ : aSt) (r : Option Value) (σ' : aSt) : Prop :=
  ∀ (l : Launch) (Z : aZ), Met l M.1 (aWd M) (aRm M) (va_Pc (av.map (aTr Z)) (aWo md Z σ)) (aQ md Z r σ') M.2.2.2.2.2.2.1 M.2.2.2.2.2.2.2 (aA Z)
def aF (md : Bool) (M : aM) (p : Program) (s : State) (m : MethodId) (args : Array Value) (meth : Method) (c : Code) (Z : aZ) : Prop :=
  p.tables.exec = Jvm.exec ∧ c.code = M.2.1 ∧ meth.sig.returnType = M.2.2.2.1 ∧ c.maxLocals = M.2.2.1 ∧ s.vm.findClass M.1.cls = some m.cls ∧ (∀ w ∈ wsL_law, w.before args s = true) ∧ meth.locks = false ∧ meth.name = M.1.name ∧ Z.1 ≤ s.heap.size ∧ va_K Z.2.1 vwCl (aTys Z) s ∧ aNs s ∧ aStr Z s s.heap
def aH (md : Bool) (Z : aZ) (σ : aSt) (s : State) (H : Heap) (locs : List Loc) : Prop := H.size = Z.1 + gN σ ∧ (md = true → 84 ≤ gN σ) ∧ va_P Z.2.1 vwCl (aWs md Z σ) H ∧ va_D (aA Z) (aWs md Z σ) ∧ va_S (aA Z) s.heap H locs
/-- the walk: at pc, with these locals, this stack and heap, so many cells and slots made, the method comes to its end with r and σ' -/
def AW (md : Bool) (M : aM) (pc : Nat) (lv : List (Nat × Value)) (st : List Value) (σ : aSt) (cu su : Nat) (r : Option Value) (σ' : aSt) : Prop :=
  ∀ (p : Program) (l : Launch) (e : Env) (s : State) (m : MethodId) (args : Array Value) (below : List Frame) (meth : Method) (c : Code) (Z : aZ) (H : Heap) (locs : List Loc) (ls : Array Slot),
    aF md M p s m args meth c Z → lv_has ls M.2.2.1 (lv.map (aTl Z)) → aH md Z σ s H locs →
    W p l e (aRm M) s m args below meth c H locs cu su (MQ below (aQ md Z r σ') args s M.2.2.2.2.2.2.1 M.2.2.2.2.2.2.2 (aA Z)) (F0 m pc ls (st.map (aTr Z)))
theorem aNs.warm {s U : State} (hW : s.WarmedH U.vm) (h : aNs s) : aNs U := ⟨fun q hq => va_Nw.warmM hW (h.1 q hq), h.2.1.moved hW.alike, h.2.2.moved hW.alike⟩
theorem aNs.same {s U : State} (hv : s.vm = U.vm) (h : aNs s) : aNs U := ⟨fun q hq => va_Nw.same rfl hv (h.1 q hq), h.2.1.moved (hv ▸ Vm.Alike.refl _), h.2.2.moved (hv ▸ Vm.Alike.refl _)⟩
theorem aWo.blind {md : Bool} {Z : aZ} {σ : aSt} {av : List Value} : FrameBlind (va_Pc av (aWo md Z σ)) := by
  intro a U g mk h
  obtain ⟨q0, q1, q2, qP, qD, qK, qN, qS⟩ := h
  exact ⟨q0, q1, q2, qP, qD, va_K.moved (u := U) (U := U.calling g mk a) (Vm.Alike.refl U.vm) qK, aNs.same (s := U) (U := U.calling g mk a) rfl qN, aStr.same (s := U) (U := U.calling g mk a) rfl qS⟩
/-- the world that a callee begins with -/
theorem aWo.at {md : Bool} {M : aM} {p : Program} {s U : State} {m : MethodId} {args : Array Value} {meth : Method} {c : Code} {Z : aZ} {σ : aSt} {H : Heap} {locs : List Loc} (X : aF md M p s m args meth c Z) (hh : aH md Z σ s H locs) (hU : U.heap = H) (hW : s.WarmedH U.vm) : aWo md Z σ U := by
  obtain ⟨-, -, -, -, -, -, -, -, -, hK, hN, hS⟩ := X
  obtain ⟨h1, h2, h3, h4, h5⟩ := hh
  subst hU
  exact ⟨h1, h2, h3, h4, hK.moved hW.alike, hN.warm hW, (hS.kept h5.2.1).warm hW⟩
/-- a contract out of a walk -/
theorem AM_of {md : Bool} {M : aM} {av : List Value} {lv : List (Nat × Value)} {σ σ' : aSt} {r : Option Value} (hy : plainName M.1.cls = true) (hlv : ∀ Z, lv_args 0 (av.map (aTr Z)) = lv.map (aTl Z)) (hn : ∀ Z, (lg_sl (av.map (aTr Z))).length ≤ M.2.2.1) (h : AW md M 0 lv [] σ 0 0 r σ') : AM md M av σ r σ' := by
  intro l Z
  refine Met.ofW (cc := M.2.1) (maxL := M.2.2.1) (ret := M.2.2.2.1) (ws' := wsL_law) hy rfl ?_
  intro p e s m args below meth c s₁ B hml hv
  obtain ⟨rfl, q1, q2, qP, qD, qK, qN, qS⟩ := hv
  have hts := atoms_spec (ws := aWd M) B.pre
  have hl := lv_entry (av.map (aTr Z)) (n := M.2.2.1) (hn Z)
  rw [lg_entry_eq]
  rw [hlv Z] at hl
  exact h p l e s m _ below meth c Z s.heap [] _ ⟨B.exec, B.bytes, B.returns, hml, findClass_of_methodNamed B.named, fun w hw => hts w (List.mem_cons_of_mem _ hw), B.notSynchronized, (name_of_methodNamed B.named B.method).1, by rw [q1]; exact Nat.le_add_right _ _, qK, qN, qS⟩ hl ⟨q1, q2, qP, qD, va_S.rf⟩
/-- an object or array of that kind stands there -/
def okO (md : Bool) (σ : aSt) (a c : Nat) : Prop := aSh a = c ∧ (a < gN σ ∨ (md = true ∧ a < 84))
theorem okO.lt {md : Bool} {σ : aSt} {a c : Nat} (h : okO md σ a c) (h84 : md = true → 84 ≤ gN σ) : a < gN σ := by
  rcases h.2 with q | ⟨q, q2⟩
  · exact q
  · exact Nat.lt_of_lt_of_le q2 (h84 q)
abbrev inB (i : Int32) (n : Nat) : Prop := ¬ (i < 0 ∨ n ≤ i.toNatClampNeg)
def aK1 (i : Nat) (q : Nat × Value) : Bool := !(q.1 == i) && !(q.1 + 1 == i && q.2.category == 2)
def aK2 (i : Nat) (q : Nat × Value) : Bool := !(q.1 == i) && (!(q.1 == i + 1) && !(q.1 + 1 == i && q.2.category == 2))
theorem aK1_map (Z : aZ) (i : Nat) (lv : List (Nat × Value)) : (lv.map (aTl Z)).filter (fun q => !(q.1 == i) && !(q.1 + 1 == i && q.2.category == 2)) = (lv.filter (aK1 i)).map (aTl Z) := by
  rw [List.filter_map]
  congr 1
  apply List.filter_congr
  intro q _
  simp only [Function.comp, aTl, aTr_cat, aK1]
theorem aK2_map (Z : aZ) (i : Nat) (lv : List (Nat × Value)) : (lv.map (aTl Z)).filter (fun q => !(q.1 == i) && (!(q.1 == i + 1) && !(q.1 + 1 == i && q.2.category == 2))) = (lv.filter (aK2 i)).map (aTl Z) := by
  rw [List.filter_map]
  congr 1
  apply List.filter_congr
  intro q _
  simp only [Function.comp, aTl, aTr_cat, aK2]
theorem aLv {Z : aZ} {lv : List (Nat × Value)} {q i : Nat} {v : Value} (h : lv[q]? = some (i, v)) : (lv.map (aTl Z))[q]? = some (i, aTr Z v) := by
  rw [List.getElem?_map, h]
  rfl
section AWR
variable {md : Bool} {M : aM} {pc : Nat} {lv lv' : List (Nat × Value)} {st : List Value} {σ σ' : aSt} {cu su : Nat} {r : Option Value}
theorem w_eq {st' : List Value} {σ₁ : aSt} (hs : st = st') (hσ : σ = σ₁) (k : AW md M pc lv st' σ₁ cu su r σ') : AW md M pc lv st σ cu su r σ' := by
  subst hs; subst hσ; exact k
theorem w_iconst {n : Int} {v : Int32} (hd : decode M.2.1 pc = .ok (.iconst n, 1)) (hv : Int32.ofInt n = v) (k : AW md M (pc + 1) lv (.int v :: st) σ cu su r σ') : AW md M pc lv st σ cu su r σ' := fun p l e s m args below meth c Z H locs ls X hl hh => lv_iconst X.1 X.2.1 hd hv (k p l e s m args below meth c Z H locs ls X hl hh)
theorem w_bipush {n : Int} {v : Int32} (hd : decode M.2.1 pc = .ok (.bipush n, 2)) (hv : (Int8.ofInt n).toInt32 = v) (k : AW md M (pc + 2) lv (.int v :: st) σ cu su r σ') : AW md M pc lv st σ cu su r σ' := fun p l e s m args below meth c Z H locs ls X hl hh => lv_bipush X.1 X.2.1 hd hv (k p l e s m args below meth c Z H locs ls X hl hh)
theorem w_sipush {n : Int} {v : Int32} (hd : decode M.2.1 pc = .ok (.sipush n, 3)) (hv : (Int16.ofInt n).toInt32 = v) (k : AW md M (pc + 3) lv (.int v :: st) σ cu su r σ') : AW md M pc lv st σ cu su r σ' := fun p l e s m args below meth c Z H locs ls X hl hh => lv_sipush X.1 X.2.1 hd hv (k p l e s m args below meth c Z H locs ls X hl hh)
theorem w_lconst {n : Fin 2} {v : Int64} (hd : decode M.2.1 pc = .ok (.lconst n, 1)) (hv : Int64.ofNat (n : Nat) = v) (k : AW md M (pc + 1) lv (.long v :: st) σ cu su r σ') : AW md M pc lv st σ cu su r σ' := fun p l e s m args below meth c Z H locs ls X hl hh => lv_lconst X.1 X.2.1 hd hv (k p l e s m args below meth c Z H locs ls X hl hh)
theorem w_null (hd : decode M.2.1 pc = .ok (.aconst_null, 1)) (k : AW md M (pc + 1) lv (va_rf none :: st) σ cu su r σ') : AW md M pc lv st σ cu su r σ' := fun p l e s m args below meth c Z H locs ls X hl hh => lv_null X.1 X.2.1 hd (k p l e s m args below meth c Z H locs ls X hl hh)
theorem w_ldc {ix : Nat} {v : Int32} (hd : decode M.2.1 pc = .ok (.ldc ix, 2)) (hw : Cond.constant M.1.cls ix v ∈ wsL_law) (k : AW md M (pc + 2) lv (.int v :: st) σ cu su r σ') : AW md M pc lv st σ cu su r σ' := fun p l e s m args below meth c Z H locs ls X hl hh => W.ldc X.1 X.2.1 X.2.2.2.2.1 (X.2.2.2.2.2.1 _ hw) rfl hd (k p l e s m args below meth c Z H locs ls X hl hh)
theorem w_ldcw {ix : Nat} {v : Int32} (hd : decode M.2.1 pc = .ok (.ldc_w ix, 3)) (hw : Cond.constant M.1.cls ix v ∈ wsL_law) (k : AW md M (pc + 3) lv (.int v :: st) σ cu su r σ') : AW md M pc lv st σ cu su r σ' := fun p l e s m args below meth c Z H locs ls X hl hh => lv_ldcw X.1 X.2.1 X.2.2.2.2.1 (X.2.2.2.2.2.1 _ hw) hd (k p l e s m args below meth c Z H locs ls X hl hh)
theorem w_ldc2 {ix : Nat} {v : Int64} (hd : decode M.2.1 pc = .ok (.ldc2_w ix, 3)) (hw : Cond.constantLong M.1.cls ix v ∈ wsL_law) (k : AW md M (pc + 3) lv (.long v :: st) σ cu su r σ') : AW md M pc lv st σ cu su r σ' := fun p l e s m args below meth c Z H locs ls X hl hh => lv_ldc2 X.1 X.2.1 X.2.2.2.2.1 (X.2.2.2.2.2.1 _ hw) hd (k p l e s m args below meth c Z H locs ls X hl hh)
theorem w_iload_n {kk : Fin 4} {i : Nat} (q : Nat) {x : Int32} (hd : decode M.2.1 pc = .ok (.iload_n kk, 1)) (hi : (kk : Nat) = i) (hq : lv[q]? = some (i, .int x)) (k : AW md M (pc + 1) lv (.int x :: st) σ cu su r σ') : AW md M pc lv st σ cu su r σ' := fun p l e s m args below meth c Z H locs ls X hl hh => lv_iload_n X.1 X.2.1 hd hi (lv_at hl q (aLv hq)) (k p l e s m args below meth c Z H locs ls X hl hh)
theorem w_iload {i : Nat} (q : Nat) {x : Int32} (hd : decode M.2.1 pc = .ok (.iload i, 2)) (hq : lv[q]? = some (i, .int x)) (k : AW md M (pc + 2) lv (.int x :: st) σ cu su r σ') : AW md M pc lv st σ cu su r σ' := fun p l e s m args below meth c Z H locs ls X hl hh => lv_iload X.1 X.2.1 hd (lv_at hl q (aLv hq)) (k p l e s m args below meth c Z H locs ls X hl hh)
theorem w_lload_n {kk : Fin 4} {i : Nat} (q : Nat) {x : Int64} (hd : decode M.2.1 pc = .ok (.lload_n kk, 1)) (hi : (kk : Nat) = i) (hq : lv[q]? = some (i, .long x)) (k : AW md M (pc + 1) lv (.long x :: st) σ cu su r σ') : AW md M pc lv st σ cu su r σ' := fun p l e s m args below meth c Z H locs ls X hl hh => lv_lload_n X.1 X.2.1 hd hi (lv_at hl q (aLv hq)) (k p l e s m args below meth c Z H locs ls X hl hh)
theorem w_lload {i : Nat} (q : Nat) {x : Int64} (hd : decode M.2.1 pc = .ok (.lload i, 2)) (hq : lv[q]? = some (i, .long x)) (k : AW md M (pc + 2) lv (.long x :: st) σ cu su r σ') : AW md M pc lv st σ cu su r σ' := fun p l e s m args below meth c Z H locs ls X hl hh => lv_lload X.1 X.2.1 hd (lv_at hl q (aLv hq)) (k p l e s m args below meth c Z H locs ls X hl hh)
theorem w_aload_n {kk : Fin 4} {i : Nat} (q : Nat) (x : Option Nat) (hd : decode M.2.1 pc = .ok (.aload_n kk, 1)) (hi : (kk : Nat) = i) (hq : lv[q]? = some (i, va_rf x)) (k : AW md M (pc + 1) lv (va_rf x :: st) σ cu su r σ') : AW md M pc lv st σ cu su r σ' := by
  intro p l e s m args below meth c Z H locs ls X hl hh
  cases x with
  | none => exact lv_aload_nN X.1 X.2.1 hd hi (lv_at hl q (aLv hq)) (k p l e s m args below meth c Z H locs ls X hl hh)
  | some a => exact lv_aload_n X.1 X.2.1 hd hi (lv_at hl q (aLv hq)) (k p l e s m args below meth c Z H locs ls X hl hh)
theorem w_aload {i : Nat} (q : Nat) (x : Option Nat) (hd : decode M.2.1 pc = .ok (.aload i, 2)) (hq : lv[q]? = some (i, va_rf x)) (k : AW md M (pc + 2) lv (va_rf x :: st) σ cu su r σ') : AW md M pc lv st σ cu su r σ' := by
  intro p l e s m args below meth c Z H locs ls X hl hh
  cases x with
  | none => exact lv_aloadN X.1 X.2.1 hd (lv_at hl q (aLv hq)) (k p l e s m args below meth c Z H locs ls X hl hh)
  | some a => exact lv_aload X.1 X.2.1 hd (lv_at hl q (aLv hq)) (k p l e s m args below meth c Z H locs ls X hl hh)
theorem w_istore_n {kk : Fin 4} {i : Nat} {x : Int32} (hd : decode M.2.1 pc = .ok (.istore_n kk, 1)) (hi : (kk : Nat) = i) (hn : i < M.2.2.1) (hv : (i, Value.int x) :: lv.filter (aK1 i) = lv') (k : AW md M (pc + 1) lv' st σ cu su r σ') : AW md M pc lv (.int x :: st) σ cu su r σ' := fun p l e s m args below meth c Z H locs ls X hl hh => lv_istore_n X.1 X.2.1 hd hi hl hn (by rw [aK1_map, ← hv]; rfl) (fun ls hl => k p l e s m args below meth c Z H locs ls X hl hh)
theorem w_istore {i : Nat} {x : Int32} (hd : decode M.2.1 pc = .ok (.istore i, 2)) (hn : i < M.2.2.1) (hv : (i, Value.int x) :: lv.filter (aK1 i) = lv') (k : AW md M (pc + 2) lv' st σ cu su r σ') : AW md M pc lv (.int x :: st) σ cu su r σ' := fun p l e s m args below meth c Z H locs ls X hl hh => lv_istore X.1 X.2.1 hd hl hn (by rw [aK1_map, ← hv]; rfl) (fun ls hl => k p l e s m args below meth c Z H locs ls X hl hh)
theorem w_lstore_n {kk : Fin 4} {i : Nat} {x : Int64} (hd : decode M.2.1 pc = .ok (.lstore_n kk, 1)) (hi : (kk : Nat) = i) (hn : i + 1 < M.2.2.1) (hv : (i, Value.long x) :: lv.filter (aK2 i) = lv') (k : AW md M (pc + 1) lv' st σ cu su r σ') : AW md M pc lv (.long x :: st) σ cu su r σ' := fun p l e s m args below meth c Z H locs ls X hl hh => lv_lstore_n X.1 X.2.1 hd hi hl hn (by rw [aK2_map, ← hv]; rfl) (fun ls hl => k p l e s m args below meth c Z H locs ls X hl hh)
theorem w_lstore {i : Nat} {x : Int64} (hd : decode M.2.1 pc = .ok (.lstore i, 2)) (hn : i + 1 < M.2.2.1) (hv : (i, Value.long x) :: lv.filter (aK2 i) = lv') (k : AW md M (pc + 2) lv' st σ cu su r σ') : AW md M pc lv (.long x :: st) σ cu su r σ' := fun p l e s m args below meth c Z H locs ls X hl hh => lv_lstore X.1 X.2.1 hd hl hn (by rw [aK2_map, ← hv]; rfl) (fun ls hl => k p l e s m args below meth c Z H locs ls X hl hh)
theorem w_astore_n {kk : Fin 4} {i : Nat} {x : Option Nat} (hd : decode M.2.1 pc = .ok (.astore_n kk, 1)) (hi : (kk : Nat) = i) (hn : i < M.2.2.1) (hv : (i, va_rf x) :: lv.filter (aK1 i) = lv') (k : AW md M (pc + 1) lv' st σ cu su r σ') : AW md M pc lv (va_rf x :: st) σ cu su r σ' := by
  intro p l e s m args below meth c Z H locs ls X hl hh
  cases x with
  | none => exact lv_astore_nN X.1 X.2.1 hd hi hl hn (by rw [aK1_map, ← hv]; rfl) (fun ls hl => k p l e s m args below meth c Z H locs ls X hl hh)
  | some a => exact lv_astore_n X.1 X.2.1 hd hi hl hn (by rw [aK1_map, ← hv]; rfl) (fun ls hl => k p l e s m args below meth c Z H locs ls X hl hh)
theorem w_astore {i : Nat} {x : Option Nat} (hd : decode M.2.1 pc = .ok (.astore i, 2)) (hn : i < M.2.2.1) (hv : (i, va_rf x) :: lv.filter (aK1 i) = lv') (k : AW md M (pc + 2) lv' st σ cu su r σ') : AW md M pc lv (va_rf x :: st) σ cu su r σ' := by
  intro p l e s m args below meth c Z H locs ls X hl hh
  cases x with
  | none => exact lv_astoreN X.1 X.2.1 hd hl hn (by rw [aK1_map, ← hv]; rfl) (fun ls hl => k p l e s m args below meth c Z H locs ls X hl hh)
  | some a => exact lv_astore X.1 X.2.1 hd hl hn (by rw [aK1_map, ← hv]; rfl) (fun ls hl => k p l e s m args below meth c Z H locs ls X hl hh)
theorem w_iinc {i q : Nat} {n : Int} {x v : Int32} (hd : decode M.2.1 pc = .ok (.iinc i n, 3)) (hq : lv[q]? = some (i, .int x)) (hx : x + Int32.ofInt n = v) (hn : i < M.2.2.1) (hv : (i, Value.int v) :: lv.filter (aK1 i) = lv') (k : AW md M (pc + 3) lv' st σ cu su r σ') : AW md M pc lv st σ cu su r σ' := fun p l e s m args below meth c Z H locs ls X hl hh => lv_iinc X.1 X.2.1 hd hl (k := q) (aLv hq) hx hn (by rw [aK1_map, ← hv]; rfl) (fun ls hl => k p l e s m args below meth c Z H locs ls X hl hh)
theorem w_sub (ks : List Nat) (hv : lv_pick lv ks = lv') (k : AW md M pc lv' st σ cu su r σ') : AW md M pc lv st σ cu su r σ' := by
  intro p l e s m args below meth c Z H locs ls X hl hh
  refine k p l e s m args below meth c Z H locs ls X (lv_sub hl ks ?_) hh
  rw [← hv]
  show (ks.filterMap fun k => (lv.map (aTl Z))[k]?) = ((ks.filterMap fun k => lv[k]?)).map (aTl Z)
  rw [List.map_filterMap]
  congr 1
  funext j
  rw [List.getElem?_map]
theorem w_iadd {x y : Int32} (hd : decode M.2.1 pc = .ok (.iadd, 1)) (k : AW md M (pc + 1) lv (.int (x + y) :: st) σ cu su r σ') : AW md M pc lv (.int y :: .int x :: st) σ cu su r σ' := fun p l e s m args below meth c Z H locs ls X hl hh => lv_iadd X.1 X.2.1 hd (k p l e s m args below meth c Z H locs ls X hl hh)
theorem w_isub {x y : Int32} (hd : decode M.2.1 pc = .ok (.isub, 1)) (k : AW md M (pc + 1) lv (.int (x - y) :: st) σ cu su r σ') : AW md M pc lv (.int y :: .int x :: st) σ cu su r σ' := fun p l e s m args below meth c Z H locs ls X hl hh => lv_isub X.1 X.2.1 hd (k p l e s m args below meth c Z H locs ls X hl hh)
theorem w_imul {x y : Int32} (hd : decode M.2.1 pc = .ok (.imul, 1)) (k : AW md M (pc + 1) lv (.int (x * y) :: st) σ cu su r σ') : AW md M pc lv (.int y :: .int x :: st) σ cu su r σ' := fun p l e s m args below meth c Z H locs ls X hl hh => lv_imul X.1 X.2.1 hd (k p l e s m args below meth c Z H locs ls X hl hh)
theorem w_iand {x y : Int32} (hd : decode M.2.1 pc = .ok (.iand, 1)) (k : AW md M (pc + 1) lv (.int (x &&& y) :: st) σ cu su r σ') : AW md M pc lv (.int y :: .int x :: st) σ cu su r σ' := fun p l e s m args below meth c Z H locs ls X hl hh => lv_iand X.1 X.2.1 hd (k p l e s m args below meth c Z H locs ls X hl hh)
theorem w_ior {x y : Int32} (hd : decode M.2.1 pc = .ok (.ior, 1)) (k : AW md M (pc + 1) lv (.int (x ||| y) :: st) σ cu su r σ') : AW md M pc lv (.int y :: .int x :: st) σ cu su r σ' := fun p l e s m args below meth c Z H locs ls X hl hh => lv_ior X.1 X.2.1 hd (k p l e s m args below meth c Z H locs ls X hl hh)
theorem w_ixor {x y : Int32} (hd : decode M.2.1 pc = .ok (.ixor, 1)) (k : AW md M (pc + 1) lv (.int (x ^^^ y) :: st) σ cu su r σ') : AW md M pc lv (.int y :: .int x :: st) σ cu su r σ' := fun p l e s m args below meth c Z H locs ls X hl hh => lv_ixor X.1 X.2.1 hd (k p l e s m args below meth c Z H locs ls X hl hh)
theorem w_idiv {x y : Int32} (hd : decode M.2.1 pc = .ok (.idiv, 1)) (hne : ¬ y = 0) (k : AW md M (pc + 1) lv (.int (x / y) :: st) σ cu su r σ') : AW md M pc lv (.int y :: .int x :: st) σ cu su r σ' := fun p l e s m args below meth c Z H locs ls X hl hh => lv_idiv X.1 X.2.1 hd hne (k p l e s m args below meth c Z H locs ls X hl hh)
theorem w_irem {x y : Int32} (hd : decode M.2.1 pc = .ok (.irem, 1)) (hne : ¬ y = 0) (k : AW md M (pc + 1) lv (.int (x - x / y * y) :: st) σ cu su r σ') : AW md M pc lv (.int y :: .int x :: st) σ cu su r σ' := fun p l e s m args below meth c Z H locs ls X hl hh => lv_irem X.1 X.2.1 hd hne (k p l e s m args below meth c Z H locs ls X hl hh)
theorem w_ishl {x y : Int32} (hd : decode M.2.1 pc = .ok (.ishl, 1)) (k : AW md M (pc + 1) lv (.int (x <<< (y &&& 31)) :: st) σ cu su r σ') : AW md M pc lv (.int y :: .int x :: st) σ cu su r σ' := fun p l e s m args below meth c Z H locs ls X hl hh => lv_ishl X.1 X.2.1 hd (k p l e s m args below meth c Z H locs ls X hl hh)
theorem w_ishr {x y : Int32} (hd : decode M.2.1 pc = .ok (.ishr, 1)) (k : AW md M (pc + 1) lv (.int (x >>> (y &&& 31)) :: st) σ cu su r σ') : AW md M pc lv (.int y :: .int x :: st) σ cu su r σ' := fun p l e s m args below meth c Z H locs ls X hl hh => lv_ishr X.1 X.2.1 hd (k p l e s m args below meth c Z H locs ls X hl hh)
theorem w_iushr {x y : Int32} (hd : decode M.2.1 pc = .ok (.iushr, 1)) (k : AW md M (pc + 1) lv (.int ((x.toUInt32 >>> (y.toUInt32 &&& Int32.toUInt32 31)).toInt32) :: st) σ cu su r σ') : AW md M pc lv (.int y :: .int x :: st) σ cu su r σ' := fun p l e s m args below meth c Z H locs ls X hl hh => lv_iushr X.1 X.2.1 hd rfl (k p l e s m args below meth c Z H locs ls X hl hh)
theorem w_ladd {x y : Int64} (hd : decode M.2.1 pc = .ok (.ladd, 1)) (k : AW md M (pc + 1) lv (.long (x + y) :: st) σ cu su r σ') : AW md M pc lv (.long y :: .long x :: st) σ cu su r σ' := fun p l e s m args below meth c Z H locs ls X hl hh => lv_ladd X.1 X.2.1 hd (k p l e s m args below meth c Z H locs ls X hl hh)
theorem w_lsub {x y : Int64} (hd : decode M.2.1 pc = .ok (.lsub, 1)) (k : AW md M (pc + 1) lv (.long (x - y) :: st) σ cu su r σ') : AW md M pc lv (.long y :: .long x :: st) σ cu su r σ' := fun p l e s m args below meth c Z H locs ls X hl hh => lv_lsub X.1 X.2.1 hd (k p l e s m args below meth c Z H locs ls X hl hh)
theorem w_lmul {x y : Int64} (hd : decode M.2.1 pc = .ok (.lmul, 1)) (k : AW md M (pc + 1) lv (.long (x * y) :: st) σ cu su r σ') : AW md M pc lv (.long y :: .long x :: st) σ cu su r σ' := fun p l e s m args below meth c Z H locs ls X hl hh => lv_lmul X.1 X.2.1 hd (k p l e s m args below meth c Z H locs ls X hl hh)
theorem w_land {x y : Int64} (hd : decode M.2.1 pc = .ok (.land, 1)) (k : AW md M (pc + 1) lv (.long (x &&& y) :: st) σ cu su r σ') : AW md M pc lv (.long y :: .long x :: st) σ cu su r σ' := fun p l e s m args below meth c Z H locs ls X hl hh => lv_land X.1 X.2.1 hd (k p l e s m args below meth c Z H locs ls X hl hh)
theorem w_lor {x y : Int64} (hd : decode M.2.1 pc = .ok (.lor, 1)) (k : AW md M (pc + 1) lv (.long (x ||| y) :: st) σ cu su r σ') : AW md M pc lv (.long y :: .long x :: st) σ cu su r σ' := fun p l e s m args below meth c Z H locs ls X hl hh => lv_lor X.1 X.2.1 hd (k p l e s m args below meth c Z H locs ls X hl hh)
theorem w_ldiv {x y : Int64} (hd : decode M.2.1 pc = .ok (.ldiv, 1)) (hne : ¬ y = 0) (k : AW md M (pc + 1) lv (.long (x / y) :: st) σ cu su r σ') : AW md M pc lv (.long y :: .long x :: st) σ cu su r σ' := fun p l e s m args below meth c Z H locs ls X hl hh => lv_ldiv X.1 X.2.1 hd hne (k p l e s m args below meth c Z H locs ls X hl hh)
theorem w_lshl {x : Int64} {y : Int32} (hd : decode M.2.1 pc = .ok (.lshl, 1)) (k : AW md M (pc + 1) lv (.long (x <<< (y.toInt64 &&& 63)) :: st) σ cu su r σ') : AW md M pc lv (.int y :: .long x :: st) σ cu su r σ' := fun p l e s m args below meth c Z H locs ls X hl hh => lv_lshl X.1 X.2.1 hd rfl (k p l e s m args below meth c Z H locs ls X hl hh)
theorem w_lshr {x : Int64} {y : Int32} (hd : decode M.2.1 pc = .ok (.lshr, 1)) (k : AW md M (pc + 1) lv (.long (x >>> (y.toInt64 &&& 63)) :: st) σ cu su r σ') : AW md M pc lv (.int y :: .long x :: st) σ cu su r σ' := fun p l e s m args below meth c Z H locs ls X hl hh => lv_lshr X.1 X.2.1 hd rfl (k p l e s m args below meth c Z H locs ls X hl hh)
theorem w_ineg {x : Int32} (hd : decode M.2.1 pc = .ok (.ineg, 1)) (k : AW md M (pc + 1) lv (.int (-x) :: st) σ cu su r σ') : AW md M pc lv (.int x :: st) σ cu su r σ' := fun p l e s m args below meth c Z H locs ls X hl hh => lv_ineg X.1 X.2.1 hd (k p l e s m args below meth c Z H locs ls X hl hh)
theorem w_i2l {x : Int32} (hd : decode M.2.1 pc = .ok (.i2l, 1)) (k : AW md M (pc + 1) lv (.long (x.toInt64) :: st) σ cu su r σ') : AW md M pc lv (.int x :: st) σ cu su r σ' := fun p l e s m args below meth c Z H locs ls X hl hh => lv_i2l X.1 X.2.1 hd rfl (k p l e s m args below meth c Z H locs ls X hl hh)
theorem w_l2i {x : Int64} (hd : decode M.2.1 pc = .ok (.l2i, 1)) (k : AW md M (pc + 1) lv (.int (x.toInt32) :: st) σ cu su r σ') : AW md M pc lv (.long x :: st) σ cu su r σ' := fun p l e s m args below meth c Z H locs ls X hl hh => lv_l2i X.1 X.2.1 hd rfl (k p l e s m args below meth c Z H locs ls X hl hh)
theorem w_i2b {x : Int32} (hd : decode M.2.1 pc = .ok (.i2b, 1)) (k : AW md M (pc + 1) lv (.int (x.toInt8.toInt32) :: st) σ cu su r σ') : AW md M pc lv (.int x :: st) σ cu su r σ' := fun p l e s m args below meth c Z H locs ls X hl hh => lv_i2b X.1 X.2.1 hd rfl (k p l e s m args below meth c Z H locs ls X hl hh)
theorem w_i2s {x : Int32} (hd : decode M.2.1 pc = .ok (.i2s, 1)) (k : AW md M (pc + 1) lv (.int (x.toInt16.toInt32) :: st) σ cu su r σ') : AW md M pc lv (.int x :: st) σ cu su r σ' := fun p l e s m args below meth c Z H locs ls X hl hh => lv_i2s X.1 X.2.1 hd rfl (k p l e s m args below meth c Z H locs ls X hl hh)
theorem w_lcmp {x y : Int64} (hd : decode M.2.1 pc = .ok (.lcmp, 1)) (k : AW md M (pc + 1) lv (.int (lg_cmp x y) :: st) σ cu su r σ') : AW md M pc lv (.long y :: .long x :: st) σ cu su r σ' := fun p l e s m args below meth c Z H locs ls X hl hh => W.lcmp X.1 X.2.1 hd (k p l e s m args below meth c Z H locs ls X hl hh)
theorem w_dup {v : Value} (hd : decode M.2.1 pc = .ok (.dup, 1)) (hv : v.category = 1) (k : AW md M (pc + 1) lv (v :: v :: st) σ cu su r σ') : AW md M pc lv (v :: st) σ cu su r σ' := fun p l e s m args below meth c Z H locs ls X hl hh => lv_dup X.1 X.2.1 hd ((aTr_cat Z v).trans hv) (k p l e s m args below meth c Z H locs ls X hl hh)
theorem w_pop {v : Value} (hd : decode M.2.1 pc = .ok (.pop, 1)) (hv : v.category = 1) (k : AW md M (pc + 1) lv st σ cu su r σ') : AW md M pc lv (v :: st) σ cu su r σ' := fun p l e s m args below meth c Z H locs ls X hl hh => lv_pop X.1 X.2.1 hd ((aTr_cat Z v).trans hv) (k p l e s m args below meth c Z H locs ls X hl hh)
theorem w_dup2 {v w : Value} (hd : decode M.2.1 pc = .ok (.dup2, 1)) (hv : v.category = 1) (hw : w.category = 1) (k : AW md M (pc + 1) lv (v :: w :: v :: w :: st) σ cu su r σ') : AW md M pc lv (v :: w :: st) σ cu su r σ' := fun p l e s m args below meth c Z H locs ls X hl hh => lv_dup2_11 X.1 X.2.1 hd ((aTr_cat Z v).trans hv) ((aTr_cat Z w).trans hw) (k p l e s m args below meth c Z H locs ls X hl hh)
theorem w_if_eq {x : Int32} {off : Int} (tgt : Nat) (hd : decode M.2.1 pc = .ok (.ifCond .eq off, 3)) (ht : (pc : Int) + off = (tgt : Int)) (kt : x = 0 → AW md M tgt lv st σ cu su r σ') (kf : ¬ (x = 0) → AW md M (pc + 3) lv st σ cu su r σ') : AW md M pc lv (.int x :: st) σ cu su r σ' := fun p l e s m args below meth c Z H locs ls X hl hh => lv_if_eq X.1 X.2.1 hd ht (fun h => (kt h p l e s m args below meth c Z H locs ls X hl hh)) (fun h => (kf h p l e s m args below meth c Z H locs ls X hl hh))
theorem w_if_ne {x : Int32} {off : Int} (tgt : Nat) (hd : decode M.2.1 pc = .ok (.ifCond .ne off, 3)) (ht : (pc : Int) + off = (tgt : Int)) (kt : ¬ x = 0 → AW md M tgt lv st σ cu su r σ') (kf : x = 0 → AW md M (pc + 3) lv st σ cu su r σ') : AW md M pc lv (.int x :: st) σ cu su r σ' := fun p l e s m args below meth c Z H locs ls X hl hh => lv_if_ne X.1 X.2.1 hd ht (fun h => (kt h p l e s m args below meth c Z H locs ls X hl hh)) (fun h => (kf h p l e s m args below meth c Z H locs ls X hl hh))
theorem w_if_lt {x : Int32} {off : Int} (tgt : Nat) (hd : decode M.2.1 pc = .ok (.ifCond .lt off, 3)) (ht : (pc : Int) + off = (tgt : Int)) (kt : x < 0 → AW md M tgt lv st σ cu su r σ') (kf : ¬ (x < 0) → AW md M (pc + 3) lv st σ cu su r σ') : AW md M pc lv (.int x :: st) σ cu su r σ' := fun p l e s m args below meth c Z H locs ls X hl hh => lv_if_lt X.1 X.2.1 hd ht (fun h => (kt h p l e s m args below meth c Z H locs ls X hl hh)) (fun h => (kf h p l e s m args below meth c Z H locs ls X hl hh))
theorem w_if_ge {x : Int32} {off : Int} (tgt : Nat) (hd : decode M.2.1 pc = .ok (.ifCond .ge off, 3)) (ht : (pc : Int) + off = (tgt : Int)) (kt : 0 ≤ x → AW md M tgt lv st σ cu su r σ') (kf : ¬ (0 ≤ x) → AW md M (pc + 3) lv st σ cu su r σ') : AW md M pc lv (.int x :: st) σ cu su r σ' := fun p l e s m args below meth c Z H locs ls X hl hh => lv_if_ge X.1 X.2.1 hd ht (fun h => (kt h p l e s m args below meth c Z H locs ls X hl hh)) (fun h => (kf h p l e s m args below meth c Z H locs ls X hl hh))
theorem w_if_gt {x : Int32} {off : Int} (tgt : Nat) (hd : decode M.2.1 pc = .ok (.ifCond .gt off, 3)) (ht : (pc : Int) + off = (tgt : Int)) (kt : 0 < x → AW md M tgt lv st σ cu su r σ') (kf : ¬ (0 < x) → AW md M (pc + 3) lv st σ cu su r σ') : AW md M pc lv (.int x :: st) σ cu su r σ' := fun p l e s m args below meth c Z H locs ls X hl hh => lv_if_gt X.1 X.2.1 hd ht (fun h => (kt h p l e s m args below meth c Z H locs ls X hl hh)) (fun h => (kf h p l e s m args below meth c Z H locs ls X hl hh))
theorem w_if_le {x : Int32} {off : Int} (tgt : Nat) (hd : decode M.2.1 pc = .ok (.ifCond .le off, 3)) (ht : (pc : Int) + off = (tgt : Int)) (kt : x ≤ 0 → AW md M tgt lv st σ cu su r σ') (kf : ¬ (x ≤ 0) → AW md M (pc + 3) lv st σ cu su r σ') : AW md M pc lv (.int x :: st) σ cu su r σ' := fun p l e s m args below meth c Z H locs ls X hl hh => lv_if_le X.1 X.2.1 hd ht (fun h => (kt h p l e s m args below meth c Z H locs ls X hl hh)) (fun h => (kf h p l e s m args below meth c Z H locs ls X hl hh))
theorem w_icmp_eq {x y : Int32} {off : Int} (tgt : Nat) (hd : decode M.2.1 pc = .ok (.if_icmp .eq off, 3)) (ht : (pc : Int) + off = (tgt : Int)) (kt : x = y → AW md M tgt lv st σ cu su r σ') (kf : ¬ (x = y) → AW md M (pc + 3) lv st σ cu su r σ') : AW md M pc lv (.int y :: .int x :: st) σ cu su r σ' := fun p l e s m args below meth c Z H locs ls X hl hh => lv_icmp_eq X.1 X.2.1 hd ht (fun h => (kt h p l e s m args below meth c Z H locs ls X hl hh)) (fun h => (kf h p l e s m args below meth c Z H locs ls X hl hh))
theorem w_icmp_ne {x y : Int32} {off : Int} (tgt : Nat) (hd : decode M.2.1 pc = .ok (.if_icmp .ne off, 3)) (ht : (pc : Int) + off = (tgt : Int)) (kt : ¬ x = y → AW md M tgt lv st σ cu su r σ') (kf : x = y → AW md M (pc + 3) lv st σ cu su r σ') : AW md M pc lv (.int y :: .int x :: st) σ cu su r σ' := fun p l e s m args below meth c Z H locs ls X hl hh => lv_icmp_ne X.1 X.2.1 hd ht (fun h => (kt h p l e s m args below meth c Z H locs ls X hl hh)) (fun h => (kf h p l e s m args below meth c Z H locs ls X hl hh))
theorem w_icmp_lt {x y : Int32} {off : Int} (tgt : Nat) (hd : decode M.2.1 pc = .ok (.if_icmp .lt off, 3)) (ht : (pc : Int) + off = (tgt : Int)) (kt : x < y → AW md M tgt lv st σ cu su r σ') (kf : ¬ (x < y) → AW md M (pc + 3) lv st σ cu su r σ') : AW md M pc lv (.int y :: .int x :: st) σ cu su r σ' := fun p l e s m args below meth c Z H locs ls X hl hh => lv_icmp_lt X.1 X.2.1 hd ht (fun h => (kt h p l e s m args below meth c Z H locs ls X hl hh)) (fun h => (kf h p l e s m args below meth c Z H locs ls X hl hh))
theorem w_icmp_ge {x y : Int32} {off : Int} (tgt : Nat) (hd : decode M.2.1 pc = .ok (.if_icmp .ge off, 3)) (ht : (pc : Int) + off = (tgt : Int)) (kt : y ≤ x → AW md M tgt lv st σ cu su r σ') (kf : ¬ (y ≤ x) → AW md M (pc + 3) lv st σ cu su r σ') : AW md M pc lv (.int y :: .int x :: st) σ cu su r σ' := fun p l e s m args below meth c Z H locs ls X hl hh => lv_icmp_ge X.1 X.2.1 hd ht (fun h => (kt h p l e s m args below meth c Z H locs ls X hl hh)) (fun h => (kf h p l e s m args below meth c Z H locs ls X hl hh))
theorem w_icmp_gt {x y : Int32} {off : Int} (tgt : Nat) (hd : decode M.2.1 pc = .ok (.if_icmp .gt off, 3)) (ht : (pc : Int) + off = (tgt : Int)) (kt : y < x → AW md M tgt lv st σ cu su r σ') (kf : ¬ (y < x) → AW md M (pc + 3) lv st σ cu su r σ') : AW md M pc lv (.int y :: .int x :: st) σ cu su r σ' := fun p l e s m args below meth c Z H locs ls X hl hh => lv_icmp_gt X.1 X.2.1 hd ht (fun h => (kt h p l e s m args below meth c Z H locs ls X hl hh)) (fun h => (kf h p l e s m args below meth c Z H locs ls X hl hh))
theorem w_icmp_le {x y : Int32} {off : Int} (tgt : Nat) (hd : decode M.2.1 pc = .ok (.if_icmp .le off, 3)) (ht : (pc : Int) + off = (tgt : Int)) (kt : x ≤ y → AW md M tgt lv st σ cu su r σ') (kf : ¬ (x ≤ y) → AW md M (pc + 3) lv st σ cu su r σ') : AW md M pc lv (.int y :: .int x :: st) σ cu su r σ' := fun p l e s m args below meth c Z H locs ls X hl hh => lv_icmp_le X.1 X.2.1 hd ht (fun h => (kt h p l e s m args below meth c Z H locs ls X hl hh)) (fun h => (kf h p l e s m args below meth c Z H locs ls X hl hh))
theorem w_goto {off : Int} (tgt : Nat) (hd : decode M.2.1 pc = .ok (.goto off, 3)) (ht : (pc : Int) + off = (tgt : Int)) (k : AW md M tgt lv st σ cu su r σ') : AW md M pc lv st σ cu su r σ' := fun p l e s m args below meth c Z H locs ls X hl hh => lv_goto X.1 X.2.1 hd ht (k p l e s m args below meth c Z H locs ls X hl hh)
theorem w_ifnull0 {off : Int} (tgt : Nat) (hd : decode M.2.1 pc = .ok (.ifnull off, 3)) (ht : (pc : Int) + off = (tgt : Int)) (k : AW md M tgt lv st σ cu su r σ') : AW md M pc lv (va_rf none :: st) σ cu su r σ' := fun p l e s m args below meth c Z H locs ls X hl hh => lv_ifnullN X.1 X.2.1 hd ht (k p l e s m args below meth c Z H locs ls X hl hh)
theorem w_ifnull1 {off : Int} {a : Nat} (hd : decode M.2.1 pc = .ok (.ifnull off, 3)) (k : AW md M (pc + 3) lv st σ cu su r σ') : AW md M pc lv (va_rf (some a) :: st) σ cu su r σ' := fun p l e s m args below meth c Z H locs ls X hl hh => lv_ifnull X.1 X.2.1 hd (k p l e s m args below meth c Z H locs ls X hl hh)
theorem w_ifnonnull0 {off : Int} (hd : decode M.2.1 pc = .ok (.ifnonnull off, 3)) (k : AW md M (pc + 3) lv st σ cu su r σ') : AW md M pc lv (va_rf none :: st) σ cu su r σ' := fun p l e s m args below meth c Z H locs ls X hl hh => lv_ifnonnullN X.1 X.2.1 hd (k p l e s m args below meth c Z H locs ls X hl hh)
theorem w_ifnonnull1 {off : Int} (tgt : Nat) {a : Nat} (hd : decode M.2.1 pc = .ok (.ifnonnull off, 3)) (ht : (pc : Int) + off = (tgt : Int)) (k : AW md M tgt lv st σ cu su r σ') : AW md M pc lv (va_rf (some a) :: st) σ cu su r σ' := fun p l e s m args below meth c Z H locs ls X hl hh => lv_ifnonnull X.1 X.2.1 hd ht (k p l e s m args below meth c Z H locs ls X hl hh)
theorem w_tabOut {dflt lo hi : Int} {offs : Array Int} {len : Nat} {x : Int32} (tgt : Nat) (hd : decode M.2.1 pc = .ok (.tableswitch dflt lo hi offs, len)) (h : x.toInt < lo ∨ hi < x.toInt) (ht : (pc : Int) + dflt = (tgt : Int)) (k : AW md M tgt lv st σ cu su r σ') : AW md M pc lv (.int x :: st) σ cu su r σ' := fun p l e s m args below meth c Z H locs ls X hl hh => lv_tableOut X.1 X.2.1 hd h ht (k p l e s m args below meth c Z H locs ls X hl hh)
theorem w_tabIn {dflt lo hi : Int} {offs : Array Int} {len : Nat} {x : Int32} {off : Int} (tgt : Nat) (hd : decode M.2.1 pc = .ok (.tableswitch dflt lo hi offs, len)) (h1 : ¬ x.toInt < lo) (h2 : ¬ hi < x.toInt) (ho : offs[(x.toInt - lo).toNat]? = some off) (ht : (pc : Int) + off = (tgt : Int)) (k : AW md M tgt lv st σ cu su r σ') : AW md M pc lv (.int x :: st) σ cu su r σ' := fun p l e s m args below meth c Z H locs ls X hl hh => lv_tableIn X.1 X.2.1 hd h1 h2 ho ht (k p l e s m args below meth c Z H locs ls X hl hh)
end AWR
end
section
/-! ===== rows that read and write the heap, returns, calls ===== -/
/-- a link to a field: kind and number of the field, final, its type -/
def aFl (own : String) (ix c k : Nat) (fin : Bool) (ty : FieldType) : Prop := ∃ (C : String) (T : u_T) (N : Nat) (tys : Nat → FieldType), vwCl[c]? = some (C, T, N) ∧ (∀ w ∈ u_ws C T N, w ∈ wsL_law) ∧ (∀ j, j < N → parseFieldDescriptor (T j).2.2.1 = some (tys j)) ∧ (∀ a, a < N → ∀ b, b < N → a ≠ b → (T a).2.1 ≠ (T b).2.1) ∧ k < N ∧ c < 13 ∧ aNf c = N ∧ Cond.fieldLink own ix (T k).1 (T k).2.1 (T k).2.2.1 ∈ wsL_law ∧ (T k).2.2.2 = fin ∧ tys k = ty ∧ (T k).1 = C
theorem aFv_i {md : Bool} {σ : aSt} {c a k : Nat} (h : aFt c k = 0) (Z : aZ) : aFv md Z σ c a k = aTr Z (.int (gI σ a k)) := by
  simp [aFv, h, aTr]
theorem aFv_l {md : Bool} {σ : aSt} {c a k : Nat} (h : aFt c k = 1) (Z : aZ) : aFv md Z σ c a k = aTr Z (.long (gL σ a k)) := by
  simp [aFv, h, aTr]
theorem aFv_k {σ : aSt} {c a k : Nat} (h : aFt c k = 3) (Z : aZ) : aFv true Z σ c a k = aTr Z (va_rf (some (aKr c k a))) := by
  simp [aFv, h, aTr, va_rf]
theorem aFv_q {md : Bool} {σ : aSt} {c a k : Nat} (h : aFt c k = 2 ∨ aFt c k = 3 ∧ md = false) (Z : aZ) : aFv md Z σ c a k = aTr Z (va_rf (gR σ a k)) := by
  rcases h with h | ⟨h, rfl⟩ <;> simp [aFv, h, aTr_rf]
theorem aCell_put {md : Bool} {Z : aZ} {σ σ1 : aSt} {a c k : Nat} {v : Value} (hs : aSh a = c) (hc : c < 13) (hg : aFv md Z σ1 c a k = v) (hne : ∀ j, j ≠ k → aFv md Z σ1 c a j = aFv md Z σ c a j) : aCell md Z σ1 a = .inr (c, ((List.range (aNf c)).map (aFv md Z σ c a)).set k v) := by
  rw [aCell_obj hs hc, aFs_set hg hne]
theorem aPut_i {md : Bool} {σ : aSt} {a c k : Nat} {v : Int32} (hs : aSh a = c) (hc : c < 13) (hf : aFt c k = 0) (Z : aZ) : aCell md Z (sI σ a k v) a = .inr (c, ((List.range (aNf c)).map (aFv md Z σ c a)).set k (aTr Z (.int v))) := by
  refine aCell_put hs hc ?_ ?_
  · rw [aFv_i hf]; simp [gI_sI]
  · intro j hj
    simp only [aFv, gI_sI, gL_sI, gR_sI]
    simp [hj]
theorem aPut_l {md : Bool} {σ : aSt} {a c k : Nat} {v : Int64} (hs : aSh a = c) (hc : c < 13) (hf : aFt c k = 1) (Z : aZ) : aCell md Z (sL σ a k v) a = .inr (c, ((List.range (aNf c)).map (aFv md Z σ c a)).set k (aTr Z (.long v))) := by
  refine aCell_put hs hc ?_ ?_
  · rw [aFv_l hf]; simp [gL_sL]
  · intro j hj
    simp only [aFv, gI_sL, gL_sL, gR_sL]
    simp [hj]
theorem aPut_q {md : Bool} {σ : aSt} {a c k : Nat} {v : Option Nat} (hs : aSh a = c) (hc : c < 13) (hf : aFt c k = 2 ∨ aFt c k = 3 ∧ md = false) (Z : aZ) : aCell md Z (sR σ a k v) a = .inr (c, ((List.range (aNf c)).map (aFv md Z σ c a)).set k (aTr Z (va_rf v))) := by
  refine aCell_put hs hc ?_ ?_
  · rw [aFv_q hf]; simp [gR_sR]
  · intro j hj
    simp only [aFv, gI_sR, gL_sR, gR_sR]
    simp [hj]
theorem aOff_i {md : Bool} {Z : aZ} {σ : aSt} {a k : Nat} {v : Int32} {j : Nat} (h : j ≠ a) : aCell md Z (sI σ a k v) j = aCell md Z σ j := aCell_ext (by rw [gI_sIr, if_neg h]) rfl rfl
theorem aOff_l {md : Bool} {Z : aZ} {σ : aSt} {a k : Nat} {v : Int64} {j : Nat} (h : j ≠ a) : aCell md Z (sL σ a k v) j = aCell md Z σ j := aCell_ext rfl (by rw [gL_sLr, if_neg h]) rfl
theorem aOff_q {md : Bool} {Z : aZ} {σ : aSt} {a k : Nat} {v : Option Nat} {j : Nat} (h : j ≠ a) : aCell md Z (sR σ a k v) j = aCell md Z σ j := aCell_ext rfl rfl (by rw [gR_sRr, if_neg h])
theorem aOff_c {md : Bool} {Z : aZ} {σ : aSt} {a sp b dp n : Nat} {j : Nat} (h : j ≠ b) : aCell md Z (sC σ a sp b dp n) j = aCell md Z σ j := aCell_ext (by rw [gI_sC, if_neg h]) rfl rfl
section AWH
variable {p : Program} {l : Launch} {e : Env} {s : State} {m : MethodId} {args : Array Value} {below : List Frame} {meth : Method} {c : Code} {H : Heap} {locs : List Loc} {cells slots : Nat} {Q : State → Prop} {R : Room} {ls : Array Slot} {rest : List Value} {Z : aZ}
/-- a field is written; the heap's size stays -/
theorem kw_put {md : Bool} {M : aM} {pc : Nat} {ws : va_W} {a ci k ix q0 : Nat} {fin : Bool} {ty : FieldType} {fs : List Value} {v : Value} (X : aF md M p s m args meth c Z) (hP : va_P Z.2.1 vwCl ws H) (hD : va_D (aA Z) ws) (hS0 : va_S (aA Z) s.heap H locs) (he : ws[q0]? = some (a, .inr (ci, fs))) (hf : aFl M.1.cls ix ci k fin ty) (hok : fin = false ∨ M.1.name = "<init>" ∧ (vwCl[ci]?.map (·.1)) = some M.1.cls) (hn : narrow ty v = v) (hfit : fits ty v = true) (hl : k < fs.length) (hdg : decode M.2.1 pc = .ok (.putfield ix, 3))
    (kk : ∀ (H1 : Heap) (locs1 : List Loc), H1.size = H.size → va_P Z.2.1 vwCl (ws.set q0 (a, .inr (ci, fs.set k v))) H1 → va_D (aA Z) (ws.set q0 (a, .inr (ci, fs.set k v))) → va_S (aA Z) s.heap H1 locs1 → W p l e R s m args below meth c H1 locs1 cells slots Q (F0 m (pc + 3) ls rest)) : W p l e R s m args below meth c H locs cells slots Q (F0 m pc ls (v :: .ref a :: rest)) := by
  obtain ⟨hx, hb, -, -, hown, hts, -, hnm0, -, hK, -, -⟩ := X
  obtain ⟨C, T, N, tys, hc, hin, hty, hnm, hk, -, -, hlw, hfin, rfl, hTC⟩ := hf
  have hap := va_apart (own := M.1.cls) hts hin tys hty hnm hK hc
  obtain ⟨r, h1, cell, q1, q2, q3, q4⟩ := hP q0 _ he
  have hr : r = (C, T, N) := Option.some.inj (h1.symm.trans hc)
  subst hr
  obtain ⟨hS, hfc, kC, hkC, hkind⟩ := hK.1 ci _ hc
  obtain ⟨cf, kf, fi, f, hi, hsl⟩ := hS k hk
  have hst := (u_facts hfc hkC (u_lays hts hin hk) hi).1
  have hlay := hts _ (hin _ (u_in_lay hk))
  unfold u_lay at hlay
  cases fin with
  | false =>
    rw [if_neg (by rw [hfin]; decide)] at hlay
    have h6 := u_store hfc hkC hkind hlay hi (hty k hk) hn hfit
    refine W.putK hx hb (f := f) ⟨hown, hts _ hlw, ⟨_, _, _, hi⟩, hst⟩ (by rw [q2]; exact h6) q1 q3 (by rw [hsl]; exact k2_hasslot (q4 k hk)) rfl rfl hdg fun H' e1 e2 e3 => ?_
    rw [hsl] at e1 ⊢
    exact kk H' _ e2 (hP.set hD he ⟨_, hc, t_OB.to (V := updV (vp_V fs) k v) ⟨_, e1, q2, q3, t_set q4 hap hk v⟩ (fun j _ => vp_updV_set hl v j)⟩ e3) (hD.set he) (hS0.put e2 e3 (hD.2 q0 _ he))
  | true =>
    have hok2 : M.1.name = "<init>" ∧ (vwCl[ci]?.map (·.1)) = some M.1.cls := hok.resolve_left (by decide)
    have hC : C = M.1.cls := by
      have h9 := hok2.2
      rw [hc] at h9
      exact Option.some.inj h9
    rw [if_pos hfin] at hlay
    have hcf : m.cls = cf := by
      obtain ⟨_, _, c', _, _, _, -, -, hf', -, -, -, hown2, -⟩ := Cond.laysFinal_spec hlay
      have e1 : c' = cf := by have := hi.symm.trans hf'; simp at this; exact this.1.symm
      rw [hTC, hC] at hown2
      rw [← e1]; exact Option.some.inj (hown.symm.trans hown2)
    have h6 := u_fits hfc hkC hkind (u_lays hts hin hk) hi (hty k hk) hn hfit
    refine W.putFinK hx hb hown (hts _ hlw) hi hst hcf (hnm0.trans hok2.1) (by rw [q2]; exact h6) q1 q3 (by rw [hsl]; exact k2_hasslot (q4 k hk)) rfl rfl hdg fun H' e1 e2 e3 => ?_
    rw [hsl] at e1 ⊢
    exact kk H' _ e2 (hP.set hD he ⟨_, hc, t_OB.to (V := updV (vp_V fs) k v) ⟨_, e1, q2, q3, t_set q4 hap hk v⟩ (fun j _ => vp_updV_set hl v j)⟩ e3) (hD.set he) (hS0.put e2 e3 (hD.2 q0 _ he))
end AWH
section AWR2
variable {md : Bool} {M : aM} {pc : Nat} {lv lv' : List (Nat × Value)} {st : List Value} {σ σ' σ1 : aSt} {cu su : Nat} {r : Option Value}
theorem w_get {a c k ix : Nat} {fin : Bool} {ty : FieldType} {v : Value} (hd : decode M.2.1 pc = .ok (.getfield ix, 3)) (hf : aFl M.1.cls ix c k fin ty) (hr : okO md σ a c) (hv : ∀ Z, aFv md Z σ c a k = aTr Z v) (kk : AW md M (pc + 3) lv (v :: st) σ cu su r σ') : AW md M pc lv (va_rf (some a) :: st) σ cu su r σ' := by
  intro p l e s m args below meth c0 Z H locs ls X hl hh
  have hlt := hr.lt hh.2.1
  have hk0 := kk p l e s m args below meth c0 Z H locs ls X hl hh
  obtain ⟨hx, hb, -, -, hown, hts, -, -, -, hK, -, -⟩ := X
  obtain ⟨C, T, N, tys, hc, hin, hty, hnm, hk, hc13, hN, hlw, hfin, rfl, hTC⟩ := hf
  have he : (aWs md Z σ)[a]? = some (Z.1 + a, .inr (c, (List.range (aNf c)).map (aFv md Z σ c a))) := by rw [aWs_get hlt, aCell_obj hr.1 hc13]
  refine va_get (D := Z.2.1) (ci := c) (v := aTr Z v) (C := C) (T := T) (N := N) hx hb hts hin hown hK hh.2.2.1 a he hc k hk (hts _ hlw) (fun _ h9 => h9) ?_ hd hk0
  rw [aFs_get (by rw [hN]; exact hk), hv Z]
theorem w_put {a c k ix : Nat} {fin : Bool} {ty : FieldType} {v : Value} (hd : decode M.2.1 pc = .ok (.putfield ix, 3)) (hf : aFl M.1.cls ix c k fin ty) (hok : fin = false ∨ M.1.name = "<init>" ∧ (vwCl[c]?.map (·.1)) = some M.1.cls) (hr : okO md σ a c) (hn : ∀ Z, narrow ty (aTr Z v) = aTr Z v) (hfit : ∀ Z, fits ty (aTr Z v) = true) (hgn : gN σ1 = gN σ) (hc1 : ∀ Z, aCell md Z σ1 a = .inr (c, ((List.range (aNf c)).map (aFv md Z σ c a)).set k (aTr Z v))) (hc2 : ∀ Z j, j ≠ a → aCell md Z σ1 j = aCell md Z σ j) (kk : AW md M (pc + 3) lv st σ1 cu su r σ') : AW md M pc lv (v :: va_rf (some a) :: st) σ cu su r σ' := by
  intro p l e s m args below meth c0 Z H locs ls X hl hh
  have hlt := hr.lt hh.2.1
  obtain ⟨z1, z2, z3, z4, z5⟩ := hh
  have hf' := hf
  obtain ⟨C, T, N, tys, hc, hin, hty, hnm, hk, hc13, hN, hlw, hfin, hty2, hTC⟩ := hf'
  have he : (aWs md Z σ)[a]? = some (Z.1 + a, .inr (c, (List.range (aNf c)).map (aFv md Z σ c a))) := by rw [aWs_get hlt, aCell_obj hr.1 hc13]
  refine kw_put (v := aTr Z v) X z3 z4 z5 he hf hok (hn Z) (hfit Z) (by rw [aFs_len, hN]; exact hk) hd (fun H1 locs1 e1 hP hD hS => ?_)
  have hw := aWs_set (md := md) (Z := Z) (σ := σ) (σ' := σ1) hlt hgn (hc1 Z) (hc2 Z)
  rw [hw] at hP hD
  exact kk p l e s m args below meth c0 Z H1 locs1 ls X hl ⟨by rw [e1, z1, hgn], fun h => by rw [hgn]; exact z2 h, hP, hD, hS⟩
theorem w_putI {a c k ix : Nat} {fin : Bool} {v : Int32} (hd : decode M.2.1 pc = .ok (.putfield ix, 3)) (hf : aFl M.1.cls ix c k fin .int) (hok : fin = false ∨ M.1.name = "<init>" ∧ (vwCl[c]?.map (·.1)) = some M.1.cls) (hft : aFt c k = 0) (hr : okO md σ a c) (kk : AW md M (pc + 3) lv st (sI σ a k v) cu su r σ') : AW md M pc lv (.int v :: va_rf (some a) :: st) σ cu su r σ' :=
  w_put (σ1 := sI σ a k v) hd hf hok hr (fun _ => rfl) (fun _ => rfl) rfl (aPut_i hr.1 (by obtain ⟨_, _, _, _, _, _, _, _, _, h, _⟩ := hf; exact h) hft) (fun _ _ h => aOff_i h) kk
theorem w_putZ {a c k ix : Nat} {fin : Bool} {v : Int32} (hd : decode M.2.1 pc = .ok (.putfield ix, 3)) (hf : aFl M.1.cls ix c k fin .boolean) (hok : fin = false ∨ M.1.name = "<init>" ∧ (vwCl[c]?.map (·.1)) = some M.1.cls) (hft : aFt c k = 0) (hr : okO md σ a c) (hz : narrow .boolean (.int v) = .int v) (hz2 : fits .boolean (.int v) = true) (kk : AW md M (pc + 3) lv st (sI σ a k v) cu su r σ') : AW md M pc lv (.int v :: va_rf (some a) :: st) σ cu su r σ' :=
  w_put (σ1 := sI σ a k v) hd hf hok hr (fun _ => hz) (fun _ => hz2) rfl (aPut_i hr.1 (by obtain ⟨_, _, _, _, _, _, _, _, _, h, _⟩ := hf; exact h) hft) (fun _ _ h => aOff_i h) kk
theorem w_putL {a c k ix : Nat} {fin : Bool} {v : Int64} (hd : decode M.2.1 pc = .ok (.putfield ix, 3)) (hf : aFl M.1.cls ix c k fin .long) (hok : fin = false ∨ M.1.name = "<init>" ∧ (vwCl[c]?.map (·.1)) = some M.1.cls) (hft : aFt c k = 1) (hr : okO md σ a c) (kk : AW md M (pc + 3) lv st (sL σ a k v) cu su r σ') : AW md M pc lv (.long v :: va_rf (some a) :: st) σ cu su r σ' :=
  w_put (σ1 := sL σ a k v) hd hf hok hr (fun _ => rfl) (fun _ => rfl) rfl (aPut_l hr.1 (by obtain ⟨_, _, _, _, _, _, _, _, _, h, _⟩ := hf; exact h) hft) (fun _ _ h => aOff_l h) kk
theorem aRf_or (Z : aZ) (x : Option Nat) : aTr Z (va_rf x) = .null ∨ ∃ q, aTr Z (va_rf x) = .ref q := by
  cases x with
  | none => exact Or.inl rfl
  | some a => exact Or.inr ⟨_, rfl⟩
def aIsR (ty : FieldType) : Prop := (∃ n, ty = .object n) ∨ ∃ t, ty = .array t
theorem aRf_n {ty : FieldType} (hty : aIsR ty) (Z : aZ) (x : Option Nat) : narrow ty (aTr Z (va_rf x)) = aTr Z (va_rf x) := by
  rcases hty with ⟨n, rfl⟩ | ⟨t, rfl⟩ <;> cases x <;> rfl
theorem aRf_f {ty : FieldType} (hty : aIsR ty) (Z : aZ) (x : Option Nat) : fits ty (aTr Z (va_rf x)) = true := by
  rcases hty with ⟨n, rfl⟩ | ⟨t, rfl⟩ <;> cases x <;> rfl
theorem w_putQ {a c k ix : Nat} {fin : Bool} {ty : FieldType} {v : Option Nat} (hd : decode M.2.1 pc = .ok (.putfield ix, 3)) (hf : aFl M.1.cls ix c k fin ty) (hok : fin = false ∨ M.1.name = "<init>" ∧ (vwCl[c]?.map (·.1)) = some M.1.cls) (hft : aFt c k = 2 ∨ aFt c k = 3 ∧ md = false) (hr : okO md σ a c) (hty : aIsR ty) (kk : AW md M (pc + 3) lv st (sR σ a k v) cu su r σ') : AW md M pc lv (va_rf v :: va_rf (some a) :: st) σ cu su r σ' :=
  w_put (σ1 := sR σ a k v) hd hf hok hr (fun Z => aRf_n hty Z v) (fun Z => aRf_f hty Z v) rfl (aPut_q hr.1 (by obtain ⟨_, _, _, _, _, _, _, _, _, h, _⟩ := hf; exact h) hft) (fun _ _ h => aOff_q h) kk
/-! arrays -/
theorem w_iaload {a : Nat} {i : Int32} (hd : decode M.2.1 pc = .ok (.iaload, 1)) (hr : okO md σ a 13) (hi : inB i (aLn a)) (kk : AW md M (pc + 1) lv (.int (gI σ a i.toNatClampNeg) :: st) σ cu su r σ') : AW md M pc lv (.int i :: va_rf (some a) :: st) σ cu su r σ' := by
  intro p l e s m args below meth c0 Z H locs ls X hl hh
  have he : (aWs md Z σ)[a]? = some (Z.1 + a, .inl (Z.2.2.1.1, aLn a, .inl (gI σ a))) := by rw [aWs_get (hr.lt hh.2.1), aCell_i hr.1]
  exact va_iald X.1 X.2.1 X.2.2.2.2.2.2.2.2.2.1 hh.2.2.1 a 0 he rfl hi hd (kk p l e s m args below meth c0 Z H locs ls X hl hh)
theorem w_baload {a : Nat} {i : Int32} (hd : decode M.2.1 pc = .ok (.baload, 1)) (hr : okO md σ a 14) (hi : inB i (aLn a)) (kk : AW md M (pc + 1) lv (.int (gI σ a i.toNatClampNeg) :: st) σ cu su r σ') : AW md M pc lv (.int i :: va_rf (some a) :: st) σ cu su r σ' := by
  intro p l e s m args below meth c0 Z H locs ls X hl hh
  have he : (aWs md Z σ)[a]? = some (Z.1 + a, .inl (Z.2.2.1.2.1, aLn a, .inl (gI σ a))) := by rw [aWs_get (hr.lt hh.2.1), aCell_b hr.1]
  exact va_bald X.1 X.2.1 X.2.2.2.2.2.2.2.2.2.1 hh.2.2.1 a 1 he rfl hi hd (kk p l e s m args below meth c0 Z H locs ls X hl hh)
theorem w_laload {a : Nat} {i : Int32} (hd : decode M.2.1 pc = .ok (.laload, 1)) (hr : okO md σ a 15) (hi : inB i (aLn a)) (kk : AW md M (pc + 1) lv (.long (gL σ a i.toNatClampNeg) :: st) σ cu su r σ') : AW md M pc lv (.int i :: va_rf (some a) :: st) σ cu su r σ' := by
  intro p l e s m args below meth c0 Z H locs ls X hl hh
  have he : (aWs md Z σ)[a]? = some (Z.1 + a, .inl (Z.2.2.1.2.2.1, aLn a, .inr (.inl (gL σ a)))) := by rw [aWs_get (hr.lt hh.2.1), aCell_l hr.1]
  exact va_lald X.1 X.2.1 X.2.2.2.2.2.2.2.2.2.1 hh.2.2.1 a 2 he rfl hi hd (kk p l e s m args below meth c0 Z H locs ls X hl hh)
theorem w_aaloadS {a : Nat} {i : Int32} (hd : decode M.2.1 pc = .ok (.aaload, 1)) (hr : okO true σ a 16) (hi : inB i (aLn a)) (kk : AW true M (pc + 1) lv (va_rf (some (41 + 2 * i.toNatClampNeg)) :: st) σ cu su r σ') : AW true M pc lv (.int i :: va_rf (some a) :: st) σ cu su r σ' := by
  intro p l e s m args below meth c0 Z H locs ls X hl hh
  have he := aWs_get (md := true) (Z := Z) (hr.lt hh.2.1)
  rw [aCell_s hr.1] at he
  exact va_aldq X.1 X.2.1 X.2.2.2.2.2.2.2.2.2.1 hh.2.2.1 a 3 he rfl hi hd (kk p l e s m args below meth c0 Z H locs ls X hl hh)
theorem w_aaloadP {a : Nat} {i : Int32} (hd : decode M.2.1 pc = .ok (.aaload, 1)) (hr : okO md σ a 17) (hi : inB i (aLn a)) (kk : AW md M (pc + 1) lv (va_rf (gR σ a i.toNatClampNeg) :: st) σ cu su r σ') : AW md M pc lv (.int i :: va_rf (some a) :: st) σ cu su r σ' := by
  intro p l e s m args below meth c0 Z H locs ls X hl hh
  have he := aWs_get (md := md) (Z := Z) (hr.lt hh.2.1)
  rw [aCell_p hr.1] at he
  have hk := kk p l e s m args below meth c0 Z H locs ls X hl hh
  rw [List.map_cons, aTr_rf] at hk
  exact va_aldq X.1 X.2.1 X.2.2.2.2.2.2.2.2.2.1 hh.2.2.1 a 4 he rfl hi hd hk
theorem w_alenI {a : Nat} (hd : decode M.2.1 pc = .ok (.arraylength, 1)) (hr : okO md σ a 13) (kk : AW md M (pc + 1) lv (.int (Int32.ofNat (aLn a)) :: st) σ cu su r σ') : AW md M pc lv (va_rf (some a) :: st) σ cu su r σ' := by
  intro p l e s m args below meth c0 Z H locs ls X hl hh
  have he : (aWs md Z σ)[a]? = some (Z.1 + a, .inl (Z.2.2.1.1, aLn a, .inl (gI σ a))) := by rw [aWs_get (hr.lt hh.2.1), aCell_i hr.1]
  exact va_alen X.1 X.2.1 X.2.2.2.2.2.2.2.2.2.1 hh.2.2.1 a 0 he rfl rfl hd (kk p l e s m args below meth c0 Z H locs ls X hl hh)
/-- behind a store into an array: the new heap -/
theorem aH_st {s : State} {Z : aZ} {H H1 : Heap} {locs locs1 : List Loc} {a : Nat} {ce : va_E} (hh : aH md Z σ s H locs) (hlt : a < gN σ) (hgn : gN σ1 = gN σ) (z : H1.size = H.size) (hc1 : aCell md Z σ1 a = ce) (hc2 : ∀ j, j ≠ a → aCell md Z σ1 j = aCell md Z σ j) (hP : va_P Z.2.1 vwCl ((aWs md Z σ).set a (Z.1 + a, ce)) H1) (hD : va_D (aA Z) ((aWs md Z σ).set a (Z.1 + a, ce))) (hS : va_S (aA Z) s.heap H1 locs1) : aH md Z σ1 s H1 locs1 := by
  have hw := aWs_set (md := md) (Z := Z) hlt hgn hc1 hc2
  rw [hw] at hP hD
  exact ⟨by rw [z, hh.1, hgn], fun h => by rw [hgn]; exact hh.2.1 h, hP, hD, hS⟩
theorem w_iastore {a : Nat} {i x : Int32} (hd : decode M.2.1 pc = .ok (.iastore, 1)) (hr : okO md σ a 13) (hi : inB i (aLn a)) (kk : AW md M (pc + 1) lv st (sI σ a i.toNatClampNeg x) cu su r σ') : AW md M pc lv (.int x :: .int i :: va_rf (some a) :: st) σ cu su r σ' := by
  intro p l e s m args below meth c0 Z H locs ls X hl hh
  have hlt := hr.lt hh.2.1
  have he : (aWs md Z σ)[a]? = some (Z.1 + a, .inl (Z.2.2.1.1, aLn a, .inl (gI σ a))) := by rw [aWs_get hlt, aCell_i hr.1]
  have hK := X.2.2.2.2.2.2.2.2.2.1
  refine W.iast X.1 X.2.1 (hh.2.2.1 a _ he) ((hK.2 0 (Z.2.2.1.1, .int) rfl).1 (aLn a) (fun j => .int (gI σ a j))) (fun q => by cases q) (by show ¬ (i < 0 ∨ (arrV _ _ _).slots.size ≤ _); rw [arrV_size]; exact hi) rfl rfl hd fun H1 e1 z oq => ?_
  refine kk p l e s m args below meth c0 Z H1 _ ls X hl (aH_st (ce := .inl (Z.2.2.1.1, aLn a, .inl (upd (gI σ a) i.toNatClampNeg x))) hh hlt rfl z ?_ (fun _ h => aOff_i h) (hh.2.2.1.set hh.2.2.2.1 he ?_ oq) (hh.2.2.2.1.set he) (hh.2.2.2.2.put z oq (hh.2.2.2.1.2 a _ he)))
  · rw [aCell_i hr.1, gI_sIr, if_pos rfl]
  · show H1[Z.1 + a]? = some (vp_cell _ _)
    rw [e1]
    rw [vp_cell_i, vp_cell_i, arrV_store]
    congr 2
    funext q
    by_cases hq : q = i.toNatClampNeg
    · subst hq
      simp [updV, upd]
    · simp [updV, upd, hq]
theorem w_bastore {a : Nat} {i x : Int32} (hd : decode M.2.1 pc = .ok (.bastore, 1)) (hr : okO md σ a 14) (hi : inB i (aLn a)) (kk : AW md M (pc + 1) lv st (sI σ a i.toNatClampNeg (vp_nar .byte x)) cu su r σ') : AW md M pc lv (.int x :: .int i :: va_rf (some a) :: st) σ cu su r σ' := by
  intro p l e s m args below meth c0 Z H locs ls X hl hh
  have hlt := hr.lt hh.2.1
  have he : (aWs md Z σ)[a]? = some (Z.1 + a, .inl (Z.2.2.1.2.1, aLn a, .inl (gI σ a))) := by rw [aWs_get hlt, aCell_b hr.1]
  have hK := X.2.2.2.2.2.2.2.2.2.1
  refine W.bast X.1 X.2.1 (hh.2.2.1 a _ he) ((hK.2 1 (Z.2.2.1.2.1, .byte) rfl).1 (aLn a) (fun j => .int (gI σ a j))) (fun q => by cases q) (by show ¬ (i < 0 ∨ (arrV _ _ _).slots.size ≤ _); rw [arrV_size]; exact hi) rfl rfl hd fun H1 e1 z oq => ?_
  refine kk p l e s m args below meth c0 Z H1 _ ls X hl (aH_st (ce := .inl (Z.2.2.1.2.1, aLn a, .inl (upd (gI σ a) i.toNatClampNeg (vp_nar .byte x)))) hh hlt rfl z ?_ (fun _ h => aOff_i h) (hh.2.2.1.set hh.2.2.2.1 he ?_ oq) (hh.2.2.2.1.set he) (hh.2.2.2.2.put z oq (hh.2.2.2.1.2 a _ he)))
  · rw [aCell_b hr.1, gI_sIr, if_pos rfl]
  · show H1[Z.1 + a]? = some (vp_cell _ _)
    rw [e1]
    rw [vp_cell_i, vp_cell_i, arrV_store]
    congr 2
    funext q
    by_cases hq : q = i.toNatClampNeg
    · subst hq
      simp [updV, upd, vp_nar]
      try rfl
    · simp [updV, upd, hq]
theorem w_lastore {a : Nat} {i : Int32} {x : Int64} (hd : decode M.2.1 pc = .ok (.lastore, 1)) (hr : okO md σ a 15) (hi : inB i (aLn a)) (kk : AW md M (pc + 1) lv st (sL σ a i.toNatClampNeg x) cu su r σ') : AW md M pc lv (.long x :: .int i :: va_rf (some a) :: st) σ cu su r σ' := by
  intro p l e s m args below meth c0 Z H locs ls X hl hh
  have hlt := hr.lt hh.2.1
  have he : (aWs md Z σ)[a]? = some (Z.1 + a, .inl (Z.2.2.1.2.2.1, aLn a, .inr (.inl (gL σ a)))) := by rw [aWs_get hlt, aCell_l hr.1]
  have hK := X.2.2.2.2.2.2.2.2.2.1
  refine W.last X.1 X.2.1 (hh.2.2.1 a _ he) ((hK.2 2 (Z.2.2.1.2.2.1, .long) rfl).1 (aLn a) (fun j => .long (gL σ a j))) (fun q => by cases q) (by show ¬ (i < 0 ∨ (arrV _ _ _).slots.size ≤ _); rw [arrV_size]; exact hi) rfl rfl hd fun H1 e1 z oq => ?_
  refine kk p l e s m args below meth c0 Z H1 _ ls X hl (aH_st (ce := .inl (Z.2.2.1.2.2.1, aLn a, .inr (.inl (vp_updL (gL σ a) i.toNatClampNeg x)))) hh hlt rfl z ?_ (fun _ h => aOff_l h) (hh.2.2.1.set hh.2.2.2.1 he ?_ oq) (hh.2.2.2.1.set he) (hh.2.2.2.2.put z oq (hh.2.2.2.1.2 a _ he)))
  · rw [aCell_l hr.1, gL_sLr, if_pos rfl]
  · show H1[Z.1 + a]? = some (vp_cell _ _)
    rw [e1]
    rw [vp_cell_l, vp_cell_l, arrV_store]
    congr 2
    funext q
    by_cases hq : q = i.toNatClampNeg
    · subst hq
      simp [updV, vp_updL]
    · simp [updV, vp_updL, hq]
/-! returns -/
theorem w_ireturn {v : Int32} (hd : decode M.2.1 pc = .ok (.ireturn, 1)) (hr : M.2.2.2.1 = some .int) (hc : cu ≤ M.2.2.2.2.2.2.1) (hs : su ≤ M.2.2.2.2.2.2.2) : AW md M pc lv [.int v] σ cu su (some (.int v)) σ := by
  intro p l e s m args below meth c0 Z H locs ls X hl hh
  refine W.widen hc hs ?_
  exact W.iret X.1 X.2.1 (X.2.2.1.trans hr) (fun t ht hW => ⟨rfl, aWo.at X hh ht hW, hh.2.2.2.2.F ht⟩) hh.2.2.2.2.2.2 hd X.2.2.2.2.2.2.1
theorem w_zreturn {v : Int32} {ty : FieldType} (hd : decode M.2.1 pc = .ok (.ireturn, 1)) (hr : M.2.2.2.1 = some ty) (hn : narrow ty (.int v) = .int v) (hc : cu ≤ M.2.2.2.2.2.2.1) (hs : su ≤ M.2.2.2.2.2.2.2) : AW md M pc lv [.int v] σ cu su (some (.int v)) σ := by
  intro p l e s m args below meth c0 Z H locs ls X hl hh
  refine W.widen hc hs ?_
  exact W.zret X.1 X.2.1 (X.2.2.1.trans hr) hn (fun t ht hW => ⟨rfl, aWo.at X hh ht hW, hh.2.2.2.2.F ht⟩) hh.2.2.2.2.2.2 hd X.2.2.2.2.2.2.1
theorem w_lreturn {v : Int64} (hd : decode M.2.1 pc = .ok (.lreturn, 1)) (hr : M.2.2.2.1 = some .long) (hc : cu ≤ M.2.2.2.2.2.2.1) (hs : su ≤ M.2.2.2.2.2.2.2) : AW md M pc lv [.long v] σ cu su (some (.long v)) σ := by
  intro p l e s m args below meth c0 Z H locs ls X hl hh
  refine W.widen hc hs ?_
  exact W.lret X.1 X.2.1 (X.2.2.1.trans hr) (fun t ht hW => ⟨rfl, aWo.at X hh ht hW, hh.2.2.2.2.F ht⟩) hh.2.2.2.2.2.2 hd X.2.2.2.2.2.2.1
theorem w_vreturn (hd : decode M.2.1 pc = .ok (.return_, 1)) (hr : M.2.2.2.1 = none) (hc : cu ≤ M.2.2.2.2.2.2.1) (hs : su ≤ M.2.2.2.2.2.2.2) : AW md M pc lv [] σ cu su none σ := by
  intro p l e s m args below meth c0 Z H locs ls X hl hh
  refine W.widen hc hs ?_
  exact W.vret X.1 X.2.1 (X.2.2.1.trans hr) (fun t ht hW => ⟨rfl, aWo.at X hh ht hW, hh.2.2.2.2.F ht⟩) hh.2.2.2.2.2.2 hd X.2.2.2.2.2.2.1
theorem w_areturn {v : Option Nat} {n : String} (hd : decode M.2.1 pc = .ok (.areturn, 1)) (hr : M.2.2.2.1 = some (.object n)) (hc : cu ≤ M.2.2.2.2.2.2.1) (hs : su ≤ M.2.2.2.2.2.2.2) : AW md M pc lv [va_rf v] σ cu su (some (va_rf v)) σ := by
  intro p l e s m args below meth c0 Z H locs ls X hl hh
  refine W.widen hc hs ?_
  exact W.aret X.1 X.2.1 (X.2.2.1.trans hr) (Or.inl ⟨_, rfl⟩) (aRf_or Z v) (fun t ht hW => ⟨rfl, aWo.at X hh ht hW, hh.2.2.2.2.F ht⟩) hh.2.2.2.2.2.2 hd X.2.2.2.2.2.2.1
end AWR2
end
section
/-! ===== new cells, copies, calls ===== -/
abbrev aDf (md : Bool) (c j : Nat) (v : Value) : Prop := (aFt c j = 0 ∧ v = .int 0) ∨ (aFt c j = 1 ∧ v = .long 0) ∨ ((aFt c j = 2 ∨ aFt c j = 3 ∧ md = false) ∧ v = .null)
def aCl (md : Bool) (own : String) (ix c N : Nat) : Prop := ∃ (C : String) (T : u_T) (tys : Nat → FieldType), vwCl[c]? = some (C, T, N) ∧ (∀ w ∈ u_ws C T N, w ∈ wsL_law) ∧ (∀ j, j < N → parseFieldDescriptor (T j).2.2.1 = some (tys j)) ∧ c < 13 ∧ aNf c = N ∧ Cond.classLink own ix C ∈ wsL_law ∧ Cond.instantiable C N ∈ wsL_law ∧ Cond.initialized C ∈ wsL_law ∧ ∀ j, j < N → aDf md c j (defaultValue (tys j))
theorem aOff_n {md : Bool} {Z : aZ} {σ : aSt} {j : Nat} (h : j < gN σ) : aCell md Z (sN σ) j = aCell md Z σ j := aCell_ext (by rw [gI_sN, if_neg (Nat.ne_of_lt h)]) (by rw [gL_sN, if_neg (Nat.ne_of_lt h)]) (by rw [gR_sN, if_neg (Nat.ne_of_lt h)])
theorem aNew_i (σ : aSt) (k : Nat) : gI (sN σ) (gN σ) k = 0 := by rw [gI_sN, if_pos rfl]
theorem aNew_l (σ : aSt) (k : Nat) : gL (sN σ) (gN σ) k = 0 := by rw [gL_sN, if_pos rfl]
theorem aNew_r (σ : aSt) (k : Nat) : gR (sN σ) (gN σ) k = none := by rw [gR_sN, if_pos rfl]
theorem aRf_cat (x : Option Nat) : (va_rf x).category = 1 := by cases x <;> rfl
section AWN
variable {md : Bool} {M : aM} {pc : Nat} {lv lv' : List (Nat × Value)} {st : List Value} {σ σ' σ1 : aSt} {cu su : Nat} {r : Option Value}
theorem kw_size {p : Program} {l : Launch} {e : Env} {R : Room} {s : State} {m : MethodId} {args : Array Value} {below : List Frame} {meth : Method} {c : Code} {H : Heap} {locs : List Loc} {slots : Nat} {Q : State → Prop} {g : JFrame} (k : H.size = s.heap.size → W p l e R s m args below meth c H locs 0 slots Q g) : W p l e R s m args below meth c H locs 0 slots Q g := by
  intro T hT X
  have h1 : s.heap.size ≤ T.heap.size := X.same.2.1
  have h2 : T.heap.size ≤ s.heap.size + 0 := X.same.2.2.1
  exact k (by rw [← hT]; omega) T hT X
theorem w_new {c ix N : Nat} (hd : decode M.2.1 pc = .ok (.new ix, 3)) (hf : aCl md M.1.cls ix c N) (hs : aSh (gN σ) = c) (hc : cu + 1 ≤ M.2.2.2.2.2.2.1) (hsl : su + N ≤ M.2.2.2.2.2.2.2) (kk : AW md M (pc + 3) lv (va_rf (some (gN σ)) :: st) (sN σ) (cu + 1) (su + N) r σ') : AW md M pc lv st σ cu su r σ' := by
  intro p l e s m args below meth c0 Z H locs ls X hl hh
  have hk0 := kk p l e s m args below meth c0 Z
  have X0 := X
  obtain ⟨hx, hb, -, -, hown, hts, -, -, hb0, hK, -, -⟩ := X
  obtain ⟨C, T, tys, hcl, hin, hty, hc13, hN, w1, w2, w3, hdf⟩ := hf
  obtain ⟨z1, z2, z3, z4, z5⟩ := hh
  have hKn := hK.1 c _ hcl
  have hA : ∀ q, s.heap.size ≤ q → aA Z q := fun q h => Nat.le_trans hb0 h
  refine W.newcK hx hb hown (hts _ w1) (hts _ w2) (hts _ w3) rfl hd hc hsl hKn.2.1 rfl fun H1 kC hkC e1 s1 o1 => ?_
  have hkp : ∀ (k : Nat) (x : Nat × va_E), (aWs md Z σ)[k]? = some x → H1[x.1]? = H[x.1]? := fun k x hx => o1 x.1 ((z3 k x hx).lt)
  have hcell : aCell md Z (sN σ) (gN σ) = .inr (c, (List.range (aNf c)).map (aFv md Z (sN σ) c (gN σ))) := aCell_obj hs hc13
  have hw := aWs_push (md := md) (Z := Z) (σ := σ) (σ' := sN σ) rfl hcell (fun j hj => aOff_n hj)
  have hP1 : va_P Z.2.1 vwCl (aWs md Z (sN σ)) H1 := by
    rw [← hw]
    refine (z3.kept hkp).app (fun k x hx => ?_)
    have hz : k < 1 := (List.getElem?_eq_some_iff.mp hx).1
    rw [show k = 0 by omega] at hx
    cases hx
    rw [← z1]
    refine ⟨_, hcl, (u_born tys hts hin hKn hkC e1 hty).to ?_⟩
    intro j hj
    have hg : vp_V ((List.range (aNf c)).map (aFv md Z (sN σ) c (gN σ))) j = aFv md Z (sN σ) c (gN σ) j := by
      unfold vp_V
      rw [List.getD_eq_getElem?_getD, aFs_get (by rw [hN]; exact hj)]
      rfl
    rw [hg]
    rcases hdf j hj with ⟨h1, h2⟩ | ⟨h1, h2⟩ | ⟨h1, h2⟩
    · rw [aFv_i h1, h2, aNew_i]; rfl
    · rw [aFv_l h1, h2, aNew_l]; rfl
    · rw [aFv_q h1, h2, aNew_r]; rfl
  have hD1 : va_D (aA Z) (aWs md Z (sN σ)) := by
    rw [← hw]
    exact z4.push z3 z1.symm (hA _ (by rw [← z1]; exact z5.1))
  have hk1 := hk0 H1 locs ls X0 hl ⟨by rw [s1, z1]; rfl, fun h => Nat.le_succ_of_le (z2 h), hP1, hD1, ⟨Nat.le_trans z5.1 (by omega), fun x h1 h2 => (o1 x (Nat.lt_of_lt_of_le h1 z5.1)).trans (z5.2.1 x h1 h2), z5.2.2⟩⟩
  rw [z1]
  exact hk1
/-- a new array of numbers -/
theorem w_newa {at0 : ArrayType} {t0 kd : Nat} {ty : FieldType} {n : Int32} (hd : decode M.2.1 pc = .ok (.newarray at0, 2)) (hty : newarray.typeOf at0 = ty) (hw : Cond.arrayClass ty ∈ wsL_law) (htk : (ty = .int ∧ kd = 13 ∧ t0 = 0) ∨ (ty = .byte ∧ kd = 14 ∧ t0 = 1) ∨ (ty = .long ∧ kd = 15 ∧ t0 = 2)) (hs : aSh (gN σ) = kd) (hn : ¬ n < 0) (hln : n.toNatClampNeg = aLn (gN σ)) (hbig : aLn (gN σ) ≤ 10000) (hc : cu + 1 ≤ M.2.2.2.2.2.2.1) (hsl : su + aLn (gN σ) ≤ M.2.2.2.2.2.2.2) (kk : AW md M (pc + 2) lv (va_rf (some (gN σ)) :: st) (sN σ) (cu + 1) (su + aLn (gN σ)) r σ') : AW md M pc lv (.int n :: st) σ cu su r σ' := by
  intro p l e s m args below meth c0 Z H locs ls X hl hh
  have hk0 := kk p l e s m args below meth c0 Z
  have X0 := X
  obtain ⟨hx, hb, -, -, hown, hts, -, -, hb0, hK, -, -⟩ := X
  obtain ⟨z1, z2, z3, z4, z5⟩ := hh
  have hA : ∀ q, s.heap.size ≤ q → aA Z q := fun q h => Nat.le_trans hb0 h
  subst hty
  refine va_newaK hx hb (hts _ hw) rfl hd rfl hn hln (by cases at0 <;> simp [newarray.typeOf, componentBytes] at htk ⊢ <;> omega) hc hsl rfl fun H1 cA e1 s1 o1 hAr hNm => ?_
  have hkp : ∀ (k : Nat) (x : Nat × va_E), (aWs md Z σ)[k]? = some x → H1[x.1]? = H[x.1]? := fun k x hx => o1 x.1 ((z3 k x hx).lt)
  have hce : ∃ ce : ClassId × vp_A, aCell md Z (sN σ) (gN σ) = .inl ce ∧ vp_cell ce.1 ce.2 = arrV cA (aLn (gN σ)) (fun _ => defaultValue (newarray.typeOf at0)) := by
    rcases htk with ⟨h1, h2, h3⟩ | ⟨h1, h2, h3⟩ | ⟨h1, h2, h3⟩
    · have hc1 := (hK.2 0 (Z.2.2.1.1, .int) rfl).2
      rw [h1] at hNm ⊢
      have : Z.2.2.1.1 = cA := Option.some.inj (hc1.symm.trans hNm)
      refine ⟨_, aCell_i (by rw [hs, h2]), ?_⟩
      rw [vp_cell_i, this]
      congr 1
      funext j
      rw [aNew_i]; rfl
    · have hc1 := (hK.2 1 (Z.2.2.1.2.1, .byte) rfl).2
      rw [h1] at hNm ⊢
      have : Z.2.2.1.2.1 = cA := Option.some.inj (hc1.symm.trans hNm)
      refine ⟨_, aCell_b (by rw [hs, h2]), ?_⟩
      rw [vp_cell_i, this]
      congr 1
      funext j
      rw [aNew_i]; rfl
    · have hc1 := (hK.2 2 (Z.2.2.1.2.2.1, .long) rfl).2
      rw [h1] at hNm ⊢
      have : Z.2.2.1.2.2.1 = cA := Option.some.inj (hc1.symm.trans hNm)
      refine ⟨_, aCell_l (by rw [hs, h2]), ?_⟩
      rw [vp_cell_l, this]
      congr 1
      funext j
      rw [aNew_l]; rfl
  obtain ⟨ce, hcell, hcv⟩ := hce
  have hw := aWs_push (md := md) (Z := Z) (σ := σ) (σ' := sN σ) rfl hcell (fun j hj => aOff_n hj)
  have hP1 : va_P Z.2.1 vwCl (aWs md Z (sN σ)) H1 := by
    rw [← hw]
    refine (z3.kept hkp).app (fun k x hx => ?_)
    have hz : k < 1 := (List.getElem?_eq_some_iff.mp hx).1
    rw [show k = 0 by omega] at hx
    cases hx
    show H1[Z.1 + gN σ]? = some (vp_cell ce.1 ce.2)
    rw [hcv, ← z1]
    exact e1
  have hD1 : va_D (aA Z) (aWs md Z (sN σ)) := by
    rw [← hw]
    exact z4.push z3 z1.symm (hA _ (by rw [← z1]; exact z5.1))
  have hk1 := hk0 H1 locs ls X0 hl ⟨by rw [s1, z1]; rfl, fun h => Nat.le_succ_of_le (z2 h), hP1, hD1, ⟨Nat.le_trans z5.1 (by omega), fun x h1 h2 => (o1 x (Nat.lt_of_lt_of_le h1 z5.1)).trans (z5.2.1 x h1 h2), z5.2.2⟩⟩
  rw [z1]
  exact hk1
/-- a new array of references, in the constructors' world -/
theorem w_anew {kd t0 ix : Nat} {C : String} {n : Int32} (hd : decode M.2.1 pc = .ok (.anewarray ix, 3)) (hw : Cond.classLink M.1.cls ix C ∈ wsL_law) (htk : (C = RX9 ∧ kd = 16) ∨ (C = RX4 ∧ kd = 17)) (hs : aSh (gN σ) = kd) (hn : ¬ n < 0) (hln : n.toNatClampNeg = aLn (gN σ)) (hbig : aLn (gN σ) ≤ 10000) (hc : cu + 1 ≤ M.2.2.2.2.2.2.1) (hsl : su + aLn (gN σ) ≤ M.2.2.2.2.2.2.2) (kk : AW false M (pc + 3) lv (va_rf (some (gN σ)) :: st) (sN σ) (cu + 1) (su + aLn (gN σ)) r σ') : AW false M pc lv (.int n :: st) σ cu su r σ' := by
  intro p l e s m args below meth c0 Z H locs ls X hl hh
  have hk0 := kk p l e s m args below meth c0 Z
  have X0 := X
  obtain ⟨hx, hb, -, -, hown, hts, -, -, hb0, hK, hNs, -⟩ := X
  obtain ⟨z1, z2, z3, z4, z5⟩ := hh
  have hA : ∀ q, s.heap.size ≤ q → aA Z q := fun q h => Nat.le_trans hb0 h
  have hov : (Cond.arrayOver (.object C)).before args s = true := by
    rcases htk with ⟨h1, -⟩ | ⟨h1, -⟩
    · rw [h1]; exact va_AO.use hNs.2.1
    · rw [h1]; exact va_AO.use hNs.2.2
  refine W.anew hx hb hown (hts _ hw) hov rfl hd rfl hn (by rw [hln]; omega) hc (by rw [hln]; exact hsl) fun cA kA comp f1 f2 f3 f4 => ?_
  rw [hln]
  generalize hH1 : H.push ({ cls := cA, slots := Array.replicate (aLn (gN σ)) .null, vm := .none } : Cell) = H1
  have s1 : H1.size = H.size + 1 := by rw [← hH1, Array.size_push]
  have e1 : H1[H.size]? = some (arrV cA (aLn (gN σ)) (fun _ => .null)) := by rw [← hH1, Array.getElem?_push_size, ← arrV_new]
  have o1 : ∀ q : Nat, q < H.size → H1[q]? = H[q]? := fun q hq => by rw [← hH1, Array.getElem?_push, if_neg (Nat.ne_of_lt hq)]
  have hkp : ∀ (k : Nat) (x : Nat × va_E), (aWs false Z σ)[k]? = some x → H1[x.1]? = H[x.1]? := fun k x hx => o1 x.1 ((z3 k x hx).lt)
  have hce : ∃ ce : ClassId × vp_A, aCell false Z (sN σ) (gN σ) = .inl ce ∧ vp_cell ce.1 ce.2 = arrV cA (aLn (gN σ)) (fun _ => .null) := by
    rcases htk with ⟨h1, h2⟩ | ⟨h1, h2⟩
    · obtain ⟨_, _, -, -, -, hc1⟩ := (hK.2 3 (Z.2.2.1.2.2.2.1, .object RX9) rfl).2
      rw [h1] at f1
      have : Z.2.2.1.2.2.2.1 = cA := Option.some.inj (hc1.symm.trans f1)
      refine ⟨_, aCell_s (by rw [hs, h2]), ?_⟩
      rw [vp_cell_q, this]
      congr 1
      funext j
      rw [aNew_r]; rfl
    · obtain ⟨_, _, -, -, -, hc1⟩ := (hK.2 4 (Z.2.2.1.2.2.2.2, .object RX4) rfl).2
      rw [h1] at f1
      have : Z.2.2.1.2.2.2.2 = cA := Option.some.inj (hc1.symm.trans f1)
      refine ⟨_, aCell_p (by rw [hs, h2]), ?_⟩
      rw [vp_cell_q, this]
      congr 1
      funext j
      rw [aNew_r]; rfl
  obtain ⟨ce, hcell, hcv⟩ := hce
  have hw := aWs_push (md := false) (Z := Z) (σ := σ) (σ' := sN σ) rfl hcell (fun j hj => aOff_n hj)
  have hP1 : va_P Z.2.1 vwCl (aWs false Z (sN σ)) H1 := by
    rw [← hw]
    refine (z3.kept hkp).app (fun k x hx => ?_)
    have hz : k < 1 := (List.getElem?_eq_some_iff.mp hx).1
    rw [show k = 0 by omega] at hx
    cases hx
    show H1[Z.1 + gN σ]? = some (vp_cell ce.1 ce.2)
    rw [hcv, ← z1]
    exact e1
  have hD1 : va_D (aA Z) (aWs false Z (sN σ)) := by
    rw [← hw]
    exact z4.push z3 z1.symm (hA _ (by rw [← z1]; exact z5.1))
  have hk1 := hk0 H1 locs ls X0 hl ⟨by rw [s1, z1]; rfl, fun h => Nat.le_succ_of_le (z2 h), hP1, hD1, ⟨Nat.le_trans z5.1 (by omega), fun x h1 h2 => (o1 x (Nat.lt_of_lt_of_le h1 z5.1)).trans (z5.2.1 x h1 h2), z5.2.2⟩⟩
  rw [z1]
  exact hk1
/-- a reference is stored into an array: kinds 17 (payments, class 4), 16 (sheets, class 9, in the constructors' world) -/
theorem w_aastore {a v kd ci t0 : Nat} {i : Int32} (hd : decode M.2.1 pc = .ok (.aastore, 1)) (htk : (kd = 17 ∧ ci = 4) ∨ (kd = 16 ∧ ci = 9 ∧ md = false)) (hr : okO md σ a kd) (hv : okO md σ v ci) (hi : inB i (aLn a)) (kk : AW md M (pc + 1) lv st (sR σ a i.toNatClampNeg (some v)) cu su r σ') : AW md M pc lv (va_rf (some v) :: .int i :: va_rf (some a) :: st) σ cu su r σ' := by
  intro p l e s m args below meth c0 Z H locs ls X hl hh
  have hlt := hr.lt hh.2.1
  have hltv := hv.lt hh.2.1
  have hK := X.2.2.2.2.2.2.2.2.2.1
  have hci : ci < 13 := by rcases htk with ⟨-, h⟩ | ⟨-, h, -⟩ <;> omega
  have hev : (aWs md Z σ)[v]? = some (Z.1 + v, .inr (ci, (List.range (aNf ci)).map (aFv md Z σ ci v))) := by rw [aWs_get hltv, aCell_obj hv.1 hci]
  have hx : ∃ (cA : ClassId) (q : vw_C) (t1 : Nat), aCell md Z σ a = .inl (cA, aLn a, .inr (.inr (.inr (.inr (fun j => aOf Z (gR σ a j)))))) ∧ aCell md Z (sR σ a i.toNatClampNeg (some v)) a = .inl (cA, aLn a, .inr (.inr (.inr (.inr (fun j => aOf Z (va_up (gR σ a) i.toNatClampNeg (some v) j)))))) ∧ vwCl[ci]? = some q ∧ (aTys Z)[t1]? = some (cA, .object q.1) := by
    rcases htk with ⟨h1, h2⟩ | ⟨h1, h2, h3⟩
    · subst h2
      exact ⟨_, (RX4, TX4, 8), 4, aCell_p (hr.1.trans h1), by rw [aCell_p (hr.1.trans h1), gR_sRr, if_pos rfl], rfl, rfl⟩
    · subst h2; subst h3
      refine ⟨_, (RX9, TX9, 4), 3, ?_, ?_, rfl, rfl⟩
      · rw [aCell_s (hr.1.trans h1)]; rfl
      · rw [aCell_s (hr.1.trans h1), gR_sRr, if_pos rfl]; rfl
  obtain ⟨cA, q, t1, hc1, hc2, hcl, ht⟩ := hx
  have he : (aWs md Z σ)[a]? = some (Z.1 + a, .inl (cA, aLn a, .inr (.inr (.inr (.inr (fun j => aOf Z (gR σ a j))))))) := by rw [aWs_get hlt, hc1]
  have hP := hh.2.2.1
  have hD := hh.2.2.2.1
  have hin := hi
  have hlt2 : i.toNatClampNeg < aLn a := Nat.not_le.mp fun q => hin (Or.inr q)
  have h0 : ¬ i < 0 := fun q => hin (Or.inl q)
  obtain ⟨r', hr', cellV, g1, g2, g3, -⟩ := hP v _ hev
  have hcls := (hK.1 ci q hcl).2
  obtain ⟨kA, comp, k1, k2, k3, -⟩ := (hK.2 t1 _ ht).2
  have hcomp : comp = Z.2.1.1 ci := Option.some.inj (k3.symm.trans hcls.1)
  subst hcomp
  obtain ⟨kC, hkC, -⟩ := hcls.2
  refine W.aast X.1 X.2.1 (hP a _ he) (fun q h => by cases h) (fun h => by cases h) k1 k2 rfl hkC ⟨h0, by show _ < (arrV _ _ _).slots.size; rw [arrV_size]; exact hlt2⟩ g1 (fun q h => by rw [g3] at h; cases h) (by rw [g2]; exact hkC) (by rw [g2]; exact va_assign hcls) rfl rfl hd fun H1 e1 z oq => ?_
  refine kk p l e s m args below meth c0 Z H1 _ ls X hl (aH_st hh hlt rfl z hc2 (fun _ h => aOff_q h) (hP.set hD he ?_ oq) (hD.set he) (hh.2.2.2.2.put z oq (hD.2 a _ he)))
  show H1[Z.1 + a]? = some (vp_cell _ _)
  rw [e1]
  rw [vp_cell_q, vp_cell_q, arrV_store]
  congr 2
  funext q
  by_cases hq : q = i.toNatClampNeg
  · subst hq
    simp [updV, va_up, va_rf, aOf]
  · simp [updV, va_up, hq]
/-- System.arraycopy of ints -/
theorem w_copy {a b ix : Nat} {sp dp n : Int32} (hd : decode M.2.1 pc = .ok (.invokestatic ix, 3)) (hw : Cond.methodLink M.1.cls ix arraycopyName ∈ wsL_law) (w2 : Cond.native arraycopyName ∈ wsL_law) (w3 : Cond.static arraycopyName ∈ wsL_law) (w4 : Cond.initialized "java/lang/System" ∈ wsL_law) (hr : okO md σ a 13) (hr2 : okO md σ b 13) (h1 : ¬ sp < 0) (h2 : ¬ dp < 0) (h3 : ¬ n < 0) (h4 : sp.toNatClampNeg + n.toNatClampNeg ≤ aLn a) (h5 : dp.toNatClampNeg + n.toNatClampNeg ≤ aLn b) (hfr : 1 ≤ M.2.2.2.2.1) (hlo : (st.map fun v => v.category).sum + (nativeFrameWords "java/lang/System" "arraycopy" 5 + 11) ≤ M.2.2.2.2.2.1) (kk : AW md M (pc + 3) lv st (sC σ a sp.toNatClampNeg b dp.toNatClampNeg n.toNatClampNeg) 0 su r σ') : AW md M pc lv (.int n :: .int dp :: va_rf (some b) :: .int sp :: va_rf (some a) :: st) σ 0 su r σ' := by
  intro p l e s m args below meth c0 Z H locs ls X hl hh
  have hts := X.2.2.2.2.2.1
  have hlt := hr2.lt hh.2.1
  have he : (aWs md Z σ)[a]? = some (Z.1 + a, .inl (Z.2.2.1.1, aLn a, .inl (gI σ a))) := by rw [aWs_get (hr.lt hh.2.1), aCell_i hr.1]
  have he2 : (aWs md Z σ)[b]? = some (Z.1 + b, .inl (Z.2.2.1.1, aLn b, .inl (gI σ b))) := by rw [aWs_get hlt, aCell_i hr2.1]
  have hcat : ((st.map (aTr Z)).map fun v => v.category).sum = (st.map fun v => v.category).sum := by
    rw [List.map_map]
    congr 1
    apply List.map_congr_left
    intro v _
    exact aTr_cat Z v
  refine kw_size fun e0 => ?_
  refine va_copyi X.1 X.2.1 (X.2.2.2.1.trans hl.1.symm) X.2.2.2.2.1 (hts _ hw) (hts _ w2) (hts _ w3) (hts _ w4) X.2.2.2.2.2.2.2.2.2.1 hh.2.2.1 hh.2.2.2.1 hh.2.2.2.2 a b 0 0 he he2 rfl rfl rfl h1 h2 h3 h4 h5 (fun _ _ => rfl) hfr (by rw [hcat]; exact hlo) hd (fun H1 locs1 hP hD hS => ?_)
  refine kw_size fun e1 => ?_
  exact kk p l e s m args below meth c0 Z H1 locs1 ls X hl (aH_st hh hlt rfl (e1.trans e0.symm) (by rw [aCell_i hr2.1, gI_sC, if_pos rfl]) (fun _ h => aOff_c h) hP hD hS)
/-! calls -/
theorem aGood {M2 : aM} (hc : Cond.code M2.1 M2.2.1 M2.2.2.1 M2.2.2.2.1 ∈ wsL_law) : GoodIn wsL_law (aWd M2) := fun w hw => by
  rcases List.mem_cons.mp hw with rfl | h
  · exact ⟨hc, (wsG_ok _ hc).2⟩
  · exact ⟨h, (wsG_ok w h).2⟩
theorem aCat (Z : aZ) (st : List Value) : ((st.map (aTr Z)).map fun v => v.category).sum = (st.map fun v => v.category).sum := by
  rw [List.map_map]
  congr 1
  apply List.map_congr_left
  intro v _
  exact aTr_cat Z v
theorem aw_go {p : Program} {l : Launch} {e : Env} {s : State} {m : MethodId} {args : Array Value} {below : List Frame} {meth : Method} {c : Code} {Z : aZ} {H : Heap} {locs : List Loc} {ls : Array Slot} {rv : Option Value} {R : Room} {Q : State → Prop} {mc2 ms2 cells slots : Nat} {a : Array Value} {st0 rest : List Value} (hr : va_Run p l e R s m args below meth c H locs cells slots mc2 ms2 (F0 m pc ls st0) rest (aQ md Z rv σ1 a) (aA Z)) (hS : va_S (aA Z) s.heap H locs)
    (kk : ∀ (H1 : Heap) (locs1 : List Loc), aH md Z σ1 s H1 locs1 → W p l e R s m args below meth c H1 locs1 (cells + mc2) (slots + ms2) Q (F0 m (pc + 3) ls ((rv.map (aTr Z)).toList ++ rest))) : W p l e R s m args below meth c H locs cells slots Q (F0 m pc ls st0) := by
  intro T hT X
  obtain ⟨v, st₀, t, T', L, h0, X', hL, e1, e2, ⟨hv, hwo, hz, hk⟩, hst⟩ := hr T hT X
  cases hv
  rw [h0] at hz hk
  obtain ⟨q1, q2, q3, q4, -⟩ := hwo
  obtain ⟨t2, a1, b1⟩ := kk T'.heap (locs ++ L) ⟨by rw [e1]; exact q1, q2, by rw [e1]; exact q3, q4,
    ⟨Nat.le_trans hS.1 (by rw [e1]; exact hz), fun q h1 h2 => by rw [e1, hk q (Nat.lt_of_lt_of_le h1 hS.1) h2]; exact hS.2.1 q h1 h2, fun q hq => by
      rcases List.mem_append.mp hq with h | h
      · exact hS.2.2 q h
      · exact hL q h⟩⟩ T' rfl X'
  exact ⟨t2, hst t2 a1, b1⟩
theorem aRet (Z : aZ) (rv : Option Value) (st : List Value) : (rv.toList ++ st).map (aTr Z) = (rv.map (aTr Z)).toList ++ st.map (aTr Z) := by
  cases rv <;> rfl
def aNoMH (M2 : aM) (n : Nat) : Prop := M2.1.cls ≠ "java/lang/invoke/MethodHandle" ∧ M2.1.cls ≠ "java/lang/invoke/VarHandle" ∧ (parseMethodDescriptor M2.1.desc).map (fun d => d.parameters.length) = some n
def aFit (M M2 : aM) (cu su : Nat) : Prop := M2.2.2.2.2.1 + 1 ≤ M.2.2.2.2.1 ∧ 8 + (M2.2.2.1 + 11) + M2.2.2.2.2.2.1 ≤ M.2.2.2.2.2.1 ∧ cu + M2.2.2.2.2.2.2.1 ≤ M.2.2.2.2.2.2.1 ∧ su + M2.2.2.2.2.2.2.2 ≤ M.2.2.2.2.2.2.2
/-- the words of a callee -/
def aKd (M2 : aM) (n : Nat) : Prop := Cond.code M2.1 M2.2.1 M2.2.2.1 M2.2.2.2.1 ∈ wsL_law ∧ Cond.initialized M2.1.cls ∈ wsL_law ∧ aNoMH M2 n
theorem w_callV {M2 : aM} {ix n b ci : Nat} {stk av : List Value} {rv : Option Value} (hM : AM md M2 (va_rf (some b) :: av) σ rv σ1) (hd : decode M.2.1 pc = .ok (.invokevirtual ix, 3)) (hk : aKd M2 n) (w1 : Cond.methodLink M.1.cls ix M2.1 ∈ wsL_law) (w2 : Cond.instanceMethod M2.1 ∈ wsL_law) (w3 : Cond.selects M2.1.cls M2.1 M2.1 ∈ wsL_law) (hn : av.length = n) (hst : stk = av.reverse ++ va_rf (some b) :: st) (hr : okO md σ b ci) (hci : (vwCl[ci]?.map (·.1)) = some M2.1.cls) (hfit : aFit M M2 cu su) (hcat : (st.map fun v => v.category).sum ≤ 8) (kk : AW md M (pc + 3) lv (rv.toList ++ st) σ1 (cu + M2.2.2.2.2.2.2.1) (su + M2.2.2.2.2.2.2.2) r σ') : AW md M pc lv stk σ cu su r σ' := by
  intro p l e s m args below meth c0 Z H locs ls X hl hh
  subst hst
  have hts := X.2.2.2.2.2.1
  obtain ⟨k1, k2, k3, k4, k5⟩ := hk
  obtain ⟨f1, f2, f3, f4⟩ := hfit
  obtain ⟨q, hq⟩ : ∃ q, vwCl[ci]? = some q := by
    cases h : vwCl[ci]? with
    | none => rw [h] at hci; cases hci
    | some q => exact ⟨q, rfl⟩
  have hqn : q.1 = M2.1.cls := by rw [hq] at hci; exact Option.some.inj hci
  have hci13 : ci < 13 := (List.getElem?_eq_some_iff.mp hq).1
  have he : (aWs md Z σ)[b]? = some (Z.1 + b, .inr (ci, (List.range (aNf ci)).map (aFv md Z σ ci b))) := by rw [aWs_get (hr.lt hh.2.1), aCell_obj hr.1 hci13]
  have hrec := va_recv X.2.2.2.2.2.2.2.2.2.1 hh.2.2.1 hq he
  rw [hqn] at hrec
  refine aw_go (va_runV (As := av.map (aTr Z)) (b := Z.1 + b) (rest := st.map (aTr Z)) (C := M2.1.cls) (n := n) ⟨X.1, X.2.1, X.2.2.2.1, X.2.2.2.2.1, hts⟩ (hM l Z) ⟨⟨rfl, rfl, f1, f2, pay_in hts (aGood k1), List.mem_cons_self, hts _ k1, hts _ k2, ⟨k3, k4⟩, fun sig h => ?_, hts _ w1⟩, hts _ w2, hts _ w3⟩ ⟨aWo.blind, hrec, fun U hU hW => ⟨rfl, aWo.at X hh hU hW⟩⟩ rfl (by rw [List.length_map]; exact hn) hl.1 ?_ (lv_room (by rw [aCat]; exact hcat)) hd ⟨f3, f4⟩) hh.2.2.2.2 (fun H1 locs1 hh1 => ?_)
  · rw [h] at k5
    exact (Option.some.inj k5).symm
  · show (av.reverse ++ va_rf (some b) :: st).map (aTr Z) = _
    rw [List.map_append, List.map_reverse]
    rfl
  · rw [← aRet]
    exact kk p l e s m args below meth c0 Z H1 locs1 ls X hl hh1
theorem w_callS {M2 : aM} {ix n : Nat} {stk av : List Value} {rv : Option Value} (hM : AM md M2 av σ rv σ1) (hd : decode M.2.1 pc = .ok (.invokestatic ix, 3)) (hk : aKd M2 n) (w1 : Cond.methodLink M.1.cls ix M2.1 ∈ wsL_law) (w2 : Cond.static M2.1 ∈ wsL_law) (hn : av.length = n) (hst : stk = av.reverse ++ st) (hfit : aFit M M2 cu su) (hcat : (st.map fun v => v.category).sum ≤ 8) (kk : AW md M (pc + 3) lv (rv.toList ++ st) σ1 (cu + M2.2.2.2.2.2.2.1) (su + M2.2.2.2.2.2.2.2) r σ') : AW md M pc lv stk σ cu su r σ' := by
  intro p l e s m args below meth c0 Z H locs ls X hl hh
  subst hst
  have hts := X.2.2.2.2.2.1
  obtain ⟨k1, k2, k3, k4, k5⟩ := hk
  obtain ⟨f1, f2, f3, f4⟩ := hfit
  refine aw_go (va_runS (As := av.map (aTr Z)) (rest := st.map (aTr Z)) (n := n) ⟨X.1, X.2.1, X.2.2.2.1, X.2.2.2.2.1, hts⟩ (hM l Z) ⟨⟨rfl, rfl, f1, f2, pay_in hts (aGood k1), List.mem_cons_self, hts _ k1, hts _ k2, ⟨k3, k4⟩, fun sig h => ?_, hts _ w1⟩, hts _ w2⟩ ⟨aWo.blind, fun U hU hW => ⟨rfl, aWo.at X hh hU hW⟩⟩ rfl (by rw [List.length_map]; exact hn) hl.1 ?_ (lv_room (by rw [aCat]; exact hcat)) hd ⟨f3, f4⟩) hh.2.2.2.2 (fun H1 locs1 hh1 => ?_)
  · rw [h] at k5
    exact (Option.some.inj k5).symm
  · show (av.reverse ++ st).map (aTr Z) = _
    rw [List.map_append, List.map_reverse]
  · rw [← aRet]
    exact kk p l e s m args below meth c0 Z H1 locs1 ls X hl hh1
theorem w_callSN {M2 : aM} {ix n : Nat} {host : String} {stk av : List Value} {rv : Option Value} (hM : AM md M2 av σ rv σ1) (hd : decode M.2.1 pc = .ok (.invokestatic ix, 3)) (hk : aKd M2 n) (w1 : (M.1.cls, ix, M2.1, host) ∈ aNest) (w2 : Cond.static M2.1 ∈ wsL_law) (hn : av.length = n) (hst : stk = av.reverse ++ st) (hfit : aFit M M2 cu su) (hcat : (st.map fun v => v.category).sum ≤ 8) (kk : AW md M (pc + 3) lv (rv.toList ++ st) σ1 (cu + M2.2.2.2.2.2.2.1) (su + M2.2.2.2.2.2.2.2) r σ') : AW md M pc lv stk σ cu su r σ' := by
  intro p l e s m args below meth c0 Z H locs ls X hl hh
  subst hst
  have hts := X.2.2.2.2.2.1
  obtain ⟨k1, k2, k3, k4, k5⟩ := hk
  obtain ⟨f1, f2, f3, f4⟩ := hfit
  have hnl := X.2.2.2.2.2.2.2.2.2.2.1.1 _ w1
  refine aw_go (va_runSN (As := av.map (aTr Z)) (rest := st.map (aTr Z)) (host := host) (n := n) ⟨X.1, X.2.1, X.2.2.2.1, X.2.2.2.2.1, hts⟩ (hM l Z) ⟨⟨⟨rfl, rfl, f1, f2, pay_in hts (aGood k1), List.mem_cons_self⟩, hts _ k1, hts _ k2, ⟨k3, k4⟩, fun sig h => ?_, va_Nw.use rfl hnl⟩, hts _ w2, trivial⟩ ⟨aWo.blind, fun U hU hW => ⟨rfl, aWo.at X hh hU hW⟩⟩ rfl (by rw [List.length_map]; exact hn) hl.1 ?_ (lv_room (by rw [aCat]; exact hcat)) hd ⟨f3, f4⟩) hh.2.2.2.2 (fun H1 locs1 hh1 => ?_)
  · rw [h] at k5
    exact (Option.some.inj k5).symm
  · show (av.reverse ++ st).map (aTr Z) = _
    rw [List.map_append, List.map_reverse]
  · rw [← aRet]
    exact kk p l e s m args below meth c0 Z H1 locs1 ls X hl hh1
theorem w_callI {M2 : aM} {ix n b : Nat} {stk av : List Value} (hM : AM md M2 (va_rf (some b) :: av) σ none σ1) (hd : decode M.2.1 pc = .ok (.invokespecial ix, 3)) (hk : aKd M2 n) (hrn : M2.2.2.2.1 = none) (hy : M2.1.name = "<init>") (w1 : Cond.methodLink M.1.cls ix M2.1 ∈ wsL_law) (w2 : Cond.instanceMethod M2.1 ∈ wsL_law) (hn : av.length = n) (hst : stk = av.reverse ++ va_rf (some b) :: st) (hfit : aFit M M2 cu su) (hcat : (st.map fun v => v.category).sum ≤ 8) (kk : AW md M (pc + 3) lv st σ1 (cu + M2.2.2.2.2.2.2.1) (su + M2.2.2.2.2.2.2.2) r σ') : AW md M pc lv stk σ cu su r σ' := by
  intro p l e s m args below meth c0 Z H locs ls X hl hh
  subst hst
  have hts := X.2.2.2.2.2.1
  obtain ⟨k1, k2, k3, k4, k5⟩ := hk
  obtain ⟨f1, f2, f3, f4⟩ := hfit
  rw [hrn] at k1
  refine aw_go (rv := none) (va_runI (As := av.map (aTr Z)) (b := Z.1 + b) (rest := st.map (aTr Z)) (n := n) (bytes := M2.2.1) (maxL := M2.2.2.1) ⟨X.1, X.2.1, X.2.2.2.1, X.2.2.2.2.1, hts⟩ (hM l Z) ⟨⟨rfl, rfl, f1, f2, pay_in hts (aGood (by rw [hrn]; exact k1)), by unfold aWd; rw [hrn]; exact List.mem_cons_self, hts _ k1, hts _ k2, ⟨k3, k4⟩, fun sig h => ?_, hts _ w1⟩, hy, hts _ w2⟩ ⟨aWo.blind, fun U hU hW => ⟨rfl, aWo.at X hh hU hW⟩⟩ rfl (by rw [List.length_map]; exact hn) hl.1 ?_ (lv_room (by rw [aCat]; exact hcat)) hd ⟨f3, f4⟩) hh.2.2.2.2 (fun H1 locs1 hh1 => ?_)
  · rw [h] at k5
    exact (Option.some.inj k5).symm
  · show (av.reverse ++ va_rf (some b) :: st).map (aTr Z) = _
    rw [List.map_append, List.map_reverse]
    rfl
  · exact kk p l e s m args below meth c0 Z H1 locs1 ls X hl hh1
theorem w_callIN {M2 : aM} {ix n b : Nat} {host : String} {stk av : List Value} (hM : AM md M2 (va_rf (some b) :: av) σ none σ1) (hd : decode M.2.1 pc = .ok (.invokespecial ix, 3)) (hk : aKd M2 n) (hrn : M2.2.2.2.1 = none) (hy : M2.1.name = "<init>") (w1 : (M.1.cls, ix, M2.1, host) ∈ aNest) (w2 : Cond.instanceMethod M2.1 ∈ wsL_law) (hn : av.length = n) (hst : stk = av.reverse ++ va_rf (some b) :: st) (hfit : aFit M M2 cu su) (hcat : (st.map fun v => v.category).sum ≤ 8) (kk : AW md M (pc + 3) lv st σ1 (cu + M2.2.2.2.2.2.2.1) (su + M2.2.2.2.2.2.2.2) r σ') : AW md M pc lv stk σ cu su r σ' := by
  intro p l e s m args below meth c0 Z H locs ls X hl hh
  subst hst
  have hts := X.2.2.2.2.2.1
  obtain ⟨k1, k2, k3, k4, k5⟩ := hk
  obtain ⟨f1, f2, f3, f4⟩ := hfit
  rw [hrn] at k1
  have hnl := X.2.2.2.2.2.2.2.2.2.2.1.1 _ w1
  refine aw_go (rv := none) (va_runIN (As := av.map (aTr Z)) (b := Z.1 + b) (rest := st.map (aTr Z)) (n := n) (host := host) (bytes := M2.2.1) (maxL := M2.2.2.1) ⟨X.1, X.2.1, X.2.2.2.1, X.2.2.2.2.1, hts⟩ (hM l Z) ⟨⟨⟨rfl, rfl, f1, f2, pay_in hts (aGood (by rw [hrn]; exact k1)), by unfold aWd; rw [hrn]; exact List.mem_cons_self⟩, hts _ k1, hts _ k2, ⟨k3, k4⟩, fun sig h => ?_, va_Nw.use rfl hnl⟩, hy, hts _ w2⟩ ⟨aWo.blind, fun U hU hW => ⟨rfl, aWo.at X hh hU hW⟩⟩ rfl (by rw [List.length_map]; exact hn) hl.1 ?_ (lv_room (by rw [aCat]; exact hcat)) hd ⟨f3, f4⟩) hh.2.2.2.2 (fun H1 locs1 hh1 => ?_)
  · rw [h] at k5
    exact (Option.some.inj k5).symm
  · show (av.reverse ++ va_rf (some b) :: st).map (aTr Z) = _
    rw [List.map_append, List.map_reverse]
    rfl
  · exact kk p l e s m args below meth c0 Z H1 locs1 ls X hl hh1
theorem w_objInit {ix : Nat} {b : Nat} (hd : decode M.2.1 pc = .ok (.invokespecial ix, 3)) (w1 : Cond.methodLink M.1.cls ix objectInit ∈ wsL_law) (w2 : Cond.instanceMethod objectInit ∈ wsL_law) (w3 : Cond.code objectInit ⟨#[0xb1]⟩ 1 none ∈ wsL_law) (hfr : 1 ≤ M.2.2.2.2.1) (hlo : (st.map fun v => v.category).sum + 12 ≤ M.2.2.2.2.2.1) (kk : AW md M (pc + 3) lv st σ cu su r σ') : AW md M pc lv (va_rf (some b) :: st) σ cu su r σ' := by
  intro p l e s m args below meth c0 Z H locs ls X hl hh
  have hts := X.2.2.2.2.2.1
  exact W.objInit X.1 X.2.1 X.2.2.2.2.1 (hts _ w1) (hts _ w2) (hts _ w3) rfl (hl.1.trans X.2.2.2.1.symm) rfl hd hfr (by show 2 * 0 + _ + 12 ≤ _; rw [aCat]; show 2 * 0 + _ + 12 ≤ M.2.2.2.2.2.1; omega) (kk p l e s m args below meth c0 Z H locs ls X hl hh)
theorem w_max {ix : Nat} {x y : Int32} (hd : decode M.2.1 pc = .ok (.invokestatic ix, 3)) (w1 : Cond.methodLink M.1.cls ix Lib.Math.max.name ∈ wsL_law) (w2 : Cond.static Lib.Math.max.name ∈ wsL_law) (w3 : Cond.initialized "java/lang/Math" ∈ wsL_law) (w4 : Cond.code Lib.Math.max.name Lib.Math.max.code 2 (some .int) ∈ wsL_law) (hfr : 1 ≤ M.2.2.2.2.1) (hlo : (st.map fun v => v.category).sum + 13 ≤ M.2.2.2.2.2.1) (hc : cu ≤ M.2.2.2.2.2.2.1) (hs : su ≤ M.2.2.2.2.2.2.2) (kk : AW md M (pc + 3) lv (.int (if x < y then y else x) :: st) σ cu su r σ') : AW md M pc lv (.int y :: .int x :: st) σ cu su r σ' := by
  intro p l e s m args below meth c0 Z H locs ls X hl hh
  have hts := X.2.2.2.2.2.1
  exact va_mmax X.1 X.2.1 (X.2.2.2.1.trans hl.1.symm) X.2.2.2.2.1 (hts _ w1) (hts _ w2) (hts _ w3) (hts _ w4) hfr (by rw [aCat]; exact hlo) hc hs hd (kk p l e s m args below meth c0 Z H locs ls X hl hh)
theorem w_abs {ix : Nat} {x : Int32} (hd : decode M.2.1 pc = .ok (.invokestatic ix, 3)) (w1 : Cond.methodLink M.1.cls ix Lib.Math.abs.name ∈ wsL_law) (w2 : Cond.static Lib.Math.abs.name ∈ wsL_law) (w3 : Cond.initialized "java/lang/Math" ∈ wsL_law) (w4 : Cond.code Lib.Math.abs.name Lib.Math.abs.code 1 (some .int) ∈ wsL_law) (hfr : 1 ≤ M.2.2.2.2.1) (hlo : (st.map fun v => v.category).sum + 13 ≤ M.2.2.2.2.2.1) (hc : cu ≤ M.2.2.2.2.2.2.1) (hs : su ≤ M.2.2.2.2.2.2.2) (kk : AW md M (pc + 3) lv (.int (if 0 ≤ x then x else 0 - x) :: st) σ cu su r σ') : AW md M pc lv (.int x :: st) σ cu su r σ' := by
  intro p l e s m args below meth c0 Z H locs ls X hl hh
  have hts := X.2.2.2.2.2.1
  exact va_mabs X.1 X.2.1 (X.2.2.2.1.trans hl.1.symm) X.2.2.2.2.1 (hts _ w1) (hts _ w2) (hts _ w3) (hts _ w4) hfr (by rw [aCat]; exact hlo) hc hs hd (kk p l e s m args below meth c0 Z H locs ls X hl hh)
end AWN
end
