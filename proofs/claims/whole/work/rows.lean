section
-- ===== PART A: goes FIRST, ahead of the names: the tables' words, and 'selects' of the private methods out of them =====
/-- a private method of a class that the tables say can be made, by its rows of tables_1 -/
def lw_okq (q : MethodName × Nat) : Prop := (q.1.cls ≠ "java/lang/invoke/MethodHandle" ∧ q.1.cls ≠ "java/lang/invoke/VarHandle") ∧ Cond.instantiable q.1.cls q.2 ∈ tables_1 ∧ Cond.privateMethod q.1 ∈ tables_1 ∧ Cond.instanceMethod q.1 ∈ tables_1
theorem lw_p0 : lw_okq (⟨"MonsoonTrade$Tokens", "takeWord", "()V"⟩, 6) := ⟨⟨by decide +kernel, by decide +kernel⟩, List.mem_of_getElem? (i := 116) (by decide +kernel), List.mem_of_getElem? (i := 433) (by decide +kernel), List.mem_of_getElem? (i := 434) (by decide +kernel)⟩
theorem lw_p1 : lw_okq (⟨"MonsoonTrade$Tokens", "takeNumber", "()V"⟩, 6) := ⟨⟨by decide +kernel, by decide +kernel⟩, List.mem_of_getElem? (i := 116) (by decide +kernel), List.mem_of_getElem? (i := 441) (by decide +kernel), List.mem_of_getElem? (i := 442) (by decide +kernel)⟩
theorem lw_p2 : lw_okq (⟨"MonsoonTrade$Tokens", "takeSign", "()V"⟩, 6) := ⟨⟨by decide +kernel, by decide +kernel⟩, List.mem_of_getElem? (i := 116) (by decide +kernel), List.mem_of_getElem? (i := 445) (by decide +kernel), List.mem_of_getElem? (i := 446) (by decide +kernel)⟩
theorem lw_p3 : lw_okq (⟨"MonsoonTrade$Reader", "readPart", "(II)V"⟩, 6) := ⟨⟨by decide +kernel, by decide +kernel⟩, List.mem_of_getElem? (i := 146) (by decide +kernel), List.mem_of_getElem? (i := 509) (by decide +kernel), List.mem_of_getElem? (i := 510) (by decide +kernel)⟩
theorem lw_p4 : lw_okq (⟨"MonsoonTrade$Reader", "require", "(I)V"⟩, 6) := ⟨⟨by decide +kernel, by decide +kernel⟩, List.mem_of_getElem? (i := 146) (by decide +kernel), List.mem_of_getElem? (i := 513) (by decide +kernel), List.mem_of_getElem? (i := 514) (by decide +kernel)⟩
theorem lw_p5 : lw_okq (⟨"MonsoonTrade$Reader", "fail", "()V"⟩, 6) := ⟨⟨by decide +kernel, by decide +kernel⟩, List.mem_of_getElem? (i := 146) (by decide +kernel), List.mem_of_getElem? (i := 518) (by decide +kernel), List.mem_of_getElem? (i := 519) (by decide +kernel)⟩
theorem lw_p6 : lw_okq (⟨"MonsoonTrade$Reader", "readOr", "()V"⟩, 6) := ⟨⟨by decide +kernel, by decide +kernel⟩, List.mem_of_getElem? (i := 146) (by decide +kernel), List.mem_of_getElem? (i := 522) (by decide +kernel), List.mem_of_getElem? (i := 523) (by decide +kernel)⟩
theorem lw_p7 : lw_okq (⟨"MonsoonTrade$Reader", "readAnd", "()V"⟩, 6) := ⟨⟨by decide +kernel, by decide +kernel⟩, List.mem_of_getElem? (i := 146) (by decide +kernel), List.mem_of_getElem? (i := 526) (by decide +kernel), List.mem_of_getElem? (i := 527) (by decide +kernel)⟩
theorem lw_p8 : lw_okq (⟨"MonsoonTrade$Reader", "readNot", "()V"⟩, 6) := ⟨⟨by decide +kernel, by decide +kernel⟩, List.mem_of_getElem? (i := 146) (by decide +kernel), List.mem_of_getElem? (i := 530) (by decide +kernel), List.mem_of_getElem? (i := 531) (by decide +kernel)⟩
theorem lw_p9 : lw_okq (⟨"MonsoonTrade$Reader", "readComparison", "()V"⟩, 6) := ⟨⟨by decide +kernel, by decide +kernel⟩, List.mem_of_getElem? (i := 146) (by decide +kernel), List.mem_of_getElem? (i := 534) (by decide +kernel), List.mem_of_getElem? (i := 535) (by decide +kernel)⟩
theorem lw_p10 : lw_okq (⟨"MonsoonTrade$Reader", "readSum", "()V"⟩, 6) := ⟨⟨by decide +kernel, by decide +kernel⟩, List.mem_of_getElem? (i := 146) (by decide +kernel), List.mem_of_getElem? (i := 538) (by decide +kernel), List.mem_of_getElem? (i := 539) (by decide +kernel)⟩
theorem lw_p11 : lw_okq (⟨"MonsoonTrade$Reader", "readTerm", "()V"⟩, 6) := ⟨⟨by decide +kernel, by decide +kernel⟩, List.mem_of_getElem? (i := 146) (by decide +kernel), List.mem_of_getElem? (i := 542) (by decide +kernel), List.mem_of_getElem? (i := 543) (by decide +kernel)⟩
theorem lw_p12 : lw_okq (⟨"MonsoonTrade$Reader", "readOne", "()V"⟩, 6) := ⟨⟨by decide +kernel, by decide +kernel⟩, List.mem_of_getElem? (i := 146) (by decide +kernel), List.mem_of_getElem? (i := 546) (by decide +kernel), List.mem_of_getElem? (i := 547) (by decide +kernel)⟩
theorem lw_p13 : lw_okq (⟨"MonsoonTrade$Reader", "emit", "(I)V"⟩, 6) := ⟨⟨by decide +kernel, by decide +kernel⟩, List.mem_of_getElem? (i := 146) (by decide +kernel), List.mem_of_getElem? (i := 550) (by decide +kernel), List.mem_of_getElem? (i := 551) (by decide +kernel)⟩
theorem lw_p14 : lw_okq (⟨"MonsoonTrade$Reader", "readNegated", "()V"⟩, 6) := ⟨⟨by decide +kernel, by decide +kernel⟩, List.mem_of_getElem? (i := 146) (by decide +kernel), List.mem_of_getElem? (i := 557) (by decide +kernel), List.mem_of_getElem? (i := 558) (by decide +kernel)⟩
theorem lw_p15 : lw_okq (⟨"MonsoonTrade$Reader", "enter", "()Z"⟩, 6) := ⟨⟨by decide +kernel, by decide +kernel⟩, List.mem_of_getElem? (i := 146) (by decide +kernel), List.mem_of_getElem? (i := 561) (by decide +kernel), List.mem_of_getElem? (i := 562) (by decide +kernel)⟩
def lw_privs_1 : List (MethodName × Nat) := [(⟨"MonsoonTrade$Tokens", "takeWord", "()V"⟩, 6), (⟨"MonsoonTrade$Tokens", "takeNumber", "()V"⟩, 6), (⟨"MonsoonTrade$Tokens", "takeSign", "()V"⟩, 6), (⟨"MonsoonTrade$Reader", "readPart", "(II)V"⟩, 6), (⟨"MonsoonTrade$Reader", "require", "(I)V"⟩, 6), (⟨"MonsoonTrade$Reader", "fail", "()V"⟩, 6), (⟨"MonsoonTrade$Reader", "readOr", "()V"⟩, 6), (⟨"MonsoonTrade$Reader", "readAnd", "()V"⟩, 6), (⟨"MonsoonTrade$Reader", "readNot", "()V"⟩, 6), (⟨"MonsoonTrade$Reader", "readComparison", "()V"⟩, 6), (⟨"MonsoonTrade$Reader", "readSum", "()V"⟩, 6), (⟨"MonsoonTrade$Reader", "readTerm", "()V"⟩, 6), (⟨"MonsoonTrade$Reader", "readOne", "()V"⟩, 6), (⟨"MonsoonTrade$Reader", "emit", "(I)V"⟩, 6), (⟨"MonsoonTrade$Reader", "readNegated", "()V"⟩, 6), (⟨"MonsoonTrade$Reader", "enter", "()Z"⟩, 6)]
theorem lw_r1 : ∀ q ∈ lw_privs_1, lw_okq q := List.forall_mem_cons.mpr ⟨lw_p0, List.forall_mem_cons.mpr ⟨lw_p1, List.forall_mem_cons.mpr ⟨lw_p2, List.forall_mem_cons.mpr ⟨lw_p3, List.forall_mem_cons.mpr ⟨lw_p4, List.forall_mem_cons.mpr ⟨lw_p5, List.forall_mem_cons.mpr ⟨lw_p6, List.forall_mem_cons.mpr ⟨lw_p7, List.forall_mem_cons.mpr ⟨lw_p8, List.forall_mem_cons.mpr ⟨lw_p9, List.forall_mem_cons.mpr ⟨lw_p10, List.forall_mem_cons.mpr ⟨lw_p11, List.forall_mem_cons.mpr ⟨lw_p12, List.forall_mem_cons.mpr ⟨lw_p13, List.forall_mem_cons.mpr ⟨lw_p14, List.forall_mem_cons.mpr ⟨lw_p15, fun _ h => absurd h List.not_mem_nil⟩⟩⟩⟩⟩⟩⟩⟩⟩⟩⟩⟩⟩⟩⟩⟩
theorem lw_p16 : lw_okq (⟨"MonsoonTrade$Reader", "readBracket", "()V"⟩, 6) := ⟨⟨by decide +kernel, by decide +kernel⟩, List.mem_of_getElem? (i := 146) (by decide +kernel), List.mem_of_getElem? (i := 565) (by decide +kernel), List.mem_of_getElem? (i := 566) (by decide +kernel)⟩
theorem lw_p17 : lw_okq (⟨"MonsoonTrade", "isDhow", "(I)Z"⟩, 14) := ⟨⟨by decide +kernel, by decide +kernel⟩, List.mem_of_getElem? (i := 24) (by decide +kernel), List.mem_of_getElem? (i := 718) (by decide +kernel), List.mem_of_getElem? (i := 719) (by decide +kernel)⟩
theorem lw_p18 : lw_okq (⟨"MonsoonTrade", "exchangeNews", "(LMonsoonTrade$Dhow;)V"⟩, 14) := ⟨⟨by decide +kernel, by decide +kernel⟩, List.mem_of_getElem? (i := 24) (by decide +kernel), List.mem_of_getElem? (i := 746) (by decide +kernel), List.mem_of_getElem? (i := 747) (by decide +kernel)⟩
theorem lw_p19 : lw_okq (⟨"MonsoonTrade", "bringIn", "()V"⟩, 14) := ⟨⟨by decide +kernel, by decide +kernel⟩, List.mem_of_getElem? (i := 24) (by decide +kernel), List.mem_of_getElem? (i := 768) (by decide +kernel), List.mem_of_getElem? (i := 769) (by decide +kernel)⟩
theorem lw_p20 : lw_okq (⟨"MonsoonTrade", "isVenture", "(I)Z"⟩, 14) := ⟨⟨by decide +kernel, by decide +kernel⟩, List.mem_of_getElem? (i := 24) (by decide +kernel), List.mem_of_getElem? (i := 825) (by decide +kernel), List.mem_of_getElem? (i := 826) (by decide +kernel)⟩
theorem lw_p21 : lw_okq (⟨"MonsoonTrade", "menOf", "(I)I"⟩, 14) := ⟨⟨by decide +kernel, by decide +kernel⟩, List.mem_of_getElem? (i := 24) (by decide +kernel), List.mem_of_getElem? (i := 845) (by decide +kernel), List.mem_of_getElem? (i := 846) (by decide +kernel)⟩
theorem lw_p22 : lw_okq (⟨"MonsoonTrade$Reckoner", "step", "(I)V"⟩, 3) := ⟨⟨by decide +kernel, by decide +kernel⟩, List.mem_of_getElem? (i := 174) (by decide +kernel), List.mem_of_getElem? (i := 866) (by decide +kernel), List.mem_of_getElem? (i := 867) (by decide +kernel)⟩
theorem lw_p23 : lw_okq (⟨"MonsoonTrade$Reckoner", "push", "(I)V"⟩, 3) := ⟨⟨by decide +kernel, by decide +kernel⟩, List.mem_of_getElem? (i := 174) (by decide +kernel), List.mem_of_getElem? (i := 870) (by decide +kernel), List.mem_of_getElem? (i := 871) (by decide +kernel)⟩
theorem lw_p24 : lw_okq (⟨"MonsoonTrade$Reckoner", "pop", "()I"⟩, 3) := ⟨⟨by decide +kernel, by decide +kernel⟩, List.mem_of_getElem? (i := 174) (by decide +kernel), List.mem_of_getElem? (i := 875) (by decide +kernel), List.mem_of_getElem? (i := 876) (by decide +kernel)⟩
theorem lw_p25 : lw_okq (⟨"MonsoonTrade", "payBottoms", "(I)V"⟩, 14) := ⟨⟨by decide +kernel, by decide +kernel⟩, List.mem_of_getElem? (i := 24) (by decide +kernel), List.mem_of_getElem? (i := 887) (by decide +kernel), List.mem_of_getElem? (i := 888) (by decide +kernel)⟩
theorem lw_p26 : lw_okq (⟨"MonsoonTrade", "weighAll", "(I)J"⟩, 14) := ⟨⟨by decide +kernel, by decide +kernel⟩, List.mem_of_getElem? (i := 24) (by decide +kernel), List.mem_of_getElem? (i := 891) (by decide +kernel), List.mem_of_getElem? (i := 892) (by decide +kernel)⟩
theorem lw_p27 : lw_okq (⟨"MonsoonTrade", "weigh", "(LMonsoonTrade$Venture;)I"⟩, 14) := ⟨⟨by decide +kernel, by decide +kernel⟩, List.mem_of_getElem? (i := 24) (by decide +kernel), List.mem_of_getElem? (i := 895) (by decide +kernel), List.mem_of_getElem? (i := 896) (by decide +kernel)⟩
theorem lw_p28 : lw_okq (⟨"MonsoonTrade", "partWith", "(LMonsoonTrade$Venture;LMonsoonTrade$Dhow;IJ)V"⟩, 14) := ⟨⟨by decide +kernel, by decide +kernel⟩, List.mem_of_getElem? (i := 24) (by decide +kernel), List.mem_of_getElem? (i := 899) (by decide +kernel), List.mem_of_getElem? (i := 900) (by decide +kernel)⟩
theorem lw_p29 : lw_okq (⟨"MonsoonTrade", "isText", "(I)Z"⟩, 14) := ⟨⟨by decide +kernel, by decide +kernel⟩, List.mem_of_getElem? (i := 24) (by decide +kernel), List.mem_of_getElem? (i := 913) (by decide +kernel), List.mem_of_getElem? (i := 914) (by decide +kernel)⟩
theorem lw_p30 : lw_okq (⟨"MonsoonTrade", "isPlan", "(III)Z"⟩, 14) := ⟨⟨by decide +kernel, by decide +kernel⟩, List.mem_of_getElem? (i := 24) (by decide +kernel), List.mem_of_getElem? (i := 928) (by decide +kernel), List.mem_of_getElem? (i := 929) (by decide +kernel)⟩
theorem lw_p31 : lw_okq (⟨"MonsoonTrade", "plan", "(III)Z"⟩, 14) := ⟨⟨by decide +kernel, by decide +kernel⟩, List.mem_of_getElem? (i := 24) (by decide +kernel), List.mem_of_getElem? (i := 932) (by decide +kernel), List.mem_of_getElem? (i := 933) (by decide +kernel)⟩
def lw_privs_2 : List (MethodName × Nat) := [(⟨"MonsoonTrade$Reader", "readBracket", "()V"⟩, 6), (⟨"MonsoonTrade", "isDhow", "(I)Z"⟩, 14), (⟨"MonsoonTrade", "exchangeNews", "(LMonsoonTrade$Dhow;)V"⟩, 14), (⟨"MonsoonTrade", "bringIn", "()V"⟩, 14), (⟨"MonsoonTrade", "isVenture", "(I)Z"⟩, 14), (⟨"MonsoonTrade", "menOf", "(I)I"⟩, 14), (⟨"MonsoonTrade$Reckoner", "step", "(I)V"⟩, 3), (⟨"MonsoonTrade$Reckoner", "push", "(I)V"⟩, 3), (⟨"MonsoonTrade$Reckoner", "pop", "()I"⟩, 3), (⟨"MonsoonTrade", "payBottoms", "(I)V"⟩, 14), (⟨"MonsoonTrade", "weighAll", "(I)J"⟩, 14), (⟨"MonsoonTrade", "weigh", "(LMonsoonTrade$Venture;)I"⟩, 14), (⟨"MonsoonTrade", "partWith", "(LMonsoonTrade$Venture;LMonsoonTrade$Dhow;IJ)V"⟩, 14), (⟨"MonsoonTrade", "isText", "(I)Z"⟩, 14), (⟨"MonsoonTrade", "isPlan", "(III)Z"⟩, 14), (⟨"MonsoonTrade", "plan", "(III)Z"⟩, 14)]
theorem lw_r2 : ∀ q ∈ lw_privs_2, lw_okq q := List.forall_mem_cons.mpr ⟨lw_p16, List.forall_mem_cons.mpr ⟨lw_p17, List.forall_mem_cons.mpr ⟨lw_p18, List.forall_mem_cons.mpr ⟨lw_p19, List.forall_mem_cons.mpr ⟨lw_p20, List.forall_mem_cons.mpr ⟨lw_p21, List.forall_mem_cons.mpr ⟨lw_p22, List.forall_mem_cons.mpr ⟨lw_p23, List.forall_mem_cons.mpr ⟨lw_p24, List.forall_mem_cons.mpr ⟨lw_p25, List.forall_mem_cons.mpr ⟨lw_p26, List.forall_mem_cons.mpr ⟨lw_p27, List.forall_mem_cons.mpr ⟨lw_p28, List.forall_mem_cons.mpr ⟨lw_p29, List.forall_mem_cons.mpr ⟨lw_p30, List.forall_mem_cons.mpr ⟨lw_p31, fun _ h => absurd h List.not_mem_nil⟩⟩⟩⟩⟩⟩⟩⟩⟩⟩⟩⟩⟩⟩⟩⟩
theorem lw_p32 : lw_okq (⟨"MonsoonTrade$Planner", "most", "(IIII)I"⟩, 12) := ⟨⟨by decide +kernel, by decide +kernel⟩, List.mem_of_getElem? (i := 190) (by decide +kernel), List.mem_of_getElem? (i := 947) (by decide +kernel), List.mem_of_getElem? (i := 948) (by decide +kernel)⟩
theorem lw_p33 : lw_okq (⟨"MonsoonTrade$Planner", "arrival", "(III)I"⟩, 12) := ⟨⟨by decide +kernel, by decide +kernel⟩, List.mem_of_getElem? (i := 190) (by decide +kernel), List.mem_of_getElem? (i := 951) (by decide +kernel), List.mem_of_getElem? (i := 952) (by decide +kernel)⟩
theorem lw_p34 : lw_okq (⟨"MonsoonTrade$Planner", "mostByOneLeg", "(III)I"⟩, 12) := ⟨⟨by decide +kernel, by decide +kernel⟩, List.mem_of_getElem? (i := 190) (by decide +kernel), List.mem_of_getElem? (i := 957) (by decide +kernel), List.mem_of_getElem? (i := 958) (by decide +kernel)⟩
theorem lw_p35 : lw_okq (⟨"MonsoonTrade$Planner", "coinsAfter", "(IIII)I"⟩, 12) := ⟨⟨by decide +kernel, by decide +kernel⟩, List.mem_of_getElem? (i := 190) (by decide +kernel), List.mem_of_getElem? (i := 961) (by decide +kernel), List.mem_of_getElem? (i := 962) (by decide +kernel)⟩
theorem lw_p36 : lw_okq (⟨"MonsoonTrade$Planner", "choose", "(III)V"⟩, 12) := ⟨⟨by decide +kernel, by decide +kernel⟩, List.mem_of_getElem? (i := 190) (by decide +kernel), List.mem_of_getElem? (i := 971) (by decide +kernel), List.mem_of_getElem? (i := 972) (by decide +kernel)⟩
theorem lw_p37 : lw_okq (⟨"MonsoonTrade", "lostDhows", "()I"⟩, 14) := ⟨⟨by decide +kernel, by decide +kernel⟩, List.mem_of_getElem? (i := 24) (by decide +kernel), List.mem_of_getElem? (i := 983) (by decide +kernel), List.mem_of_getElem? (i := 984) (by decide +kernel)⟩
theorem lw_p38 : lw_okq (⟨"MonsoonTrade", "openVentures", "()I"⟩, 14) := ⟨⟨by decide +kernel, by decide +kernel⟩, List.mem_of_getElem? (i := 24) (by decide +kernel), List.mem_of_getElem? (i := 987) (by decide +kernel), List.mem_of_getElem? (i := 988) (by decide +kernel)⟩
theorem lw_p39 : lw_okq (⟨"MonsoonTradeModel", "isPort", "(I)Z"⟩, 59) := ⟨⟨by decide +kernel, by decide +kernel⟩, List.mem_of_getElem? (i := 1032) (by decide +kernel), List.mem_of_getElem? (i := 1030) (by decide +kernel), List.mem_of_getElem? (i := 1031) (by decide +kernel)⟩
theorem lw_p40 : lw_okq (⟨"MonsoonTradeModel", "priceOf", "(II)I"⟩, 59) := ⟨⟨by decide +kernel, by decide +kernel⟩, List.mem_of_getElem? (i := 1032) (by decide +kernel), List.mem_of_getElem? (i := 1040) (by decide +kernel), List.mem_of_getElem? (i := 1041) (by decide +kernel)⟩
theorem lw_p41 : lw_okq (⟨"MonsoonTradeModel", "wayOf", "(III)I"⟩, 59) := ⟨⟨by decide +kernel, by decide +kernel⟩, List.mem_of_getElem? (i := 1032) (by decide +kernel), List.mem_of_getElem? (i := 1065) (by decide +kernel), List.mem_of_getElem? (i := 1066) (by decide +kernel)⟩
theorem lw_p42 : lw_okq (⟨"MonsoonTradeModel", "isDhow", "(I)Z"⟩, 59) := ⟨⟨by decide +kernel, by decide +kernel⟩, List.mem_of_getElem? (i := 1032) (by decide +kernel), List.mem_of_getElem? (i := 1078) (by decide +kernel), List.mem_of_getElem? (i := 1079) (by decide +kernel)⟩
theorem lw_p43 : lw_okq (⟨"MonsoonTradeModel", "all", "(I)I"⟩, 59) := ⟨⟨by decide +kernel, by decide +kernel⟩, List.mem_of_getElem? (i := 1032) (by decide +kernel), List.mem_of_getElem? (i := 1082) (by decide +kernel), List.mem_of_getElem? (i := 1083) (by decide +kernel)⟩
theorem lw_p44 : lw_okq (⟨"MonsoonTradeModel", "isThere", "(I)Z"⟩, 59) := ⟨⟨by decide +kernel, by decide +kernel⟩, List.mem_of_getElem? (i := 1032) (by decide +kernel), List.mem_of_getElem? (i := 1094) (by decide +kernel), List.mem_of_getElem? (i := 1095) (by decide +kernel)⟩
theorem lw_p45 : lw_okq (⟨"MonsoonTradeModel", "talk", "(I)V"⟩, 59) := ⟨⟨by decide +kernel, by decide +kernel⟩, List.mem_of_getElem? (i := 1032) (by decide +kernel), List.mem_of_getElem? (i := 1106) (by decide +kernel), List.mem_of_getElem? (i := 1107) (by decide +kernel)⟩
theorem lw_p46 : lw_okq (⟨"MonsoonTradeModel", "know", "(I)V"⟩, 59) := ⟨⟨by decide +kernel, by decide +kernel⟩, List.mem_of_getElem? (i := 1032) (by decide +kernel), List.mem_of_getElem? (i := 1110) (by decide +kernel), List.mem_of_getElem? (i := 1111) (by decide +kernel)⟩
theorem lw_p47 : lw_okq (⟨"MonsoonTradeModel", "hear", "(II)V"⟩, 59) := ⟨⟨by decide +kernel, by decide +kernel⟩, List.mem_of_getElem? (i := 1032) (by decide +kernel), List.mem_of_getElem? (i := 1114) (by decide +kernel), List.mem_of_getElem? (i := 1115) (by decide +kernel)⟩
def lw_privs_3 : List (MethodName × Nat) := [(⟨"MonsoonTrade$Planner", "most", "(IIII)I"⟩, 12), (⟨"MonsoonTrade$Planner", "arrival", "(III)I"⟩, 12), (⟨"MonsoonTrade$Planner", "mostByOneLeg", "(III)I"⟩, 12), (⟨"MonsoonTrade$Planner", "coinsAfter", "(IIII)I"⟩, 12), (⟨"MonsoonTrade$Planner", "choose", "(III)V"⟩, 12), (⟨"MonsoonTrade", "lostDhows", "()I"⟩, 14), (⟨"MonsoonTrade", "openVentures", "()I"⟩, 14), (⟨"MonsoonTradeModel", "isPort", "(I)Z"⟩, 59), (⟨"MonsoonTradeModel", "priceOf", "(II)I"⟩, 59), (⟨"MonsoonTradeModel", "wayOf", "(III)I"⟩, 59), (⟨"MonsoonTradeModel", "isDhow", "(I)Z"⟩, 59), (⟨"MonsoonTradeModel", "all", "(I)I"⟩, 59), (⟨"MonsoonTradeModel", "isThere", "(I)Z"⟩, 59), (⟨"MonsoonTradeModel", "talk", "(I)V"⟩, 59), (⟨"MonsoonTradeModel", "know", "(I)V"⟩, 59), (⟨"MonsoonTradeModel", "hear", "(II)V"⟩, 59)]
theorem lw_r3 : ∀ q ∈ lw_privs_3, lw_okq q := List.forall_mem_cons.mpr ⟨lw_p32, List.forall_mem_cons.mpr ⟨lw_p33, List.forall_mem_cons.mpr ⟨lw_p34, List.forall_mem_cons.mpr ⟨lw_p35, List.forall_mem_cons.mpr ⟨lw_p36, List.forall_mem_cons.mpr ⟨lw_p37, List.forall_mem_cons.mpr ⟨lw_p38, List.forall_mem_cons.mpr ⟨lw_p39, List.forall_mem_cons.mpr ⟨lw_p40, List.forall_mem_cons.mpr ⟨lw_p41, List.forall_mem_cons.mpr ⟨lw_p42, List.forall_mem_cons.mpr ⟨lw_p43, List.forall_mem_cons.mpr ⟨lw_p44, List.forall_mem_cons.mpr ⟨lw_p45, List.forall_mem_cons.mpr ⟨lw_p46, List.forall_mem_cons.mpr ⟨lw_p47, fun _ h => absurd h List.not_mem_nil⟩⟩⟩⟩⟩⟩⟩⟩⟩⟩⟩⟩⟩⟩⟩⟩
theorem lw_p48 : lw_okq (⟨"MonsoonTradeModel", "isVenture", "(I)Z"⟩, 59) := ⟨⟨by decide +kernel, by decide +kernel⟩, List.mem_of_getElem? (i := 1032) (by decide +kernel), List.mem_of_getElem? (i := 1141) (by decide +kernel), List.mem_of_getElem? (i := 1142) (by decide +kernel)⟩
theorem lw_p49 : lw_okq (⟨"MonsoonTradeModel", "value", "(IIIIIII)I"⟩, 59) := ⟨⟨by decide +kernel, by decide +kernel⟩, List.mem_of_getElem? (i := 1032) (by decide +kernel), List.mem_of_getElem? (i := 1157) (by decide +kernel), List.mem_of_getElem? (i := 1158) (by decide +kernel)⟩
theorem lw_p50 : lw_okq (⟨"MonsoonTradeModel", "payBottoms", "(I)V"⟩, 59) := ⟨⟨by decide +kernel, by decide +kernel⟩, List.mem_of_getElem? (i := 1032) (by decide +kernel), List.mem_of_getElem? (i := 1167) (by decide +kernel), List.mem_of_getElem? (i := 1168) (by decide +kernel)⟩
theorem lw_p51 : lw_okq (⟨"MonsoonTradeModel", "pay", "(III)V"⟩, 59) := ⟨⟨by decide +kernel, by decide +kernel⟩, List.mem_of_getElem? (i := 1032) (by decide +kernel), List.mem_of_getElem? (i := 1171) (by decide +kernel), List.mem_of_getElem? (i := 1172) (by decide +kernel)⟩
theorem lw_p52 : lw_okq (⟨"MonsoonTradeModel", "weigh", "(I)J"⟩, 59) := ⟨⟨by decide +kernel, by decide +kernel⟩, List.mem_of_getElem? (i := 1032) (by decide +kernel), List.mem_of_getElem? (i := 1175) (by decide +kernel), List.mem_of_getElem? (i := 1176) (by decide +kernel)⟩
theorem lw_p53 : lw_okq (⟨"MonsoonTradeModel", "takesPart", "(II)Z"⟩, 59) := ⟨⟨by decide +kernel, by decide +kernel⟩, List.mem_of_getElem? (i := 1032) (by decide +kernel), List.mem_of_getElem? (i := 1179) (by decide +kernel), List.mem_of_getElem? (i := 1180) (by decide +kernel)⟩
theorem lw_p54 : lw_okq (⟨"MonsoonTradeModel", "part", "(IJJ)V"⟩, 59) := ⟨⟨by decide +kernel, by decide +kernel⟩, List.mem_of_getElem? (i := 1032) (by decide +kernel), List.mem_of_getElem? (i := 1183) (by decide +kernel), List.mem_of_getElem? (i := 1184) (by decide +kernel)⟩
theorem lw_p55 : lw_okq (⟨"MonsoonTradeModel", "add", "(III)V"⟩, 59) := ⟨⟨by decide +kernel, by decide +kernel⟩, List.mem_of_getElem? (i := 1032) (by decide +kernel), List.mem_of_getElem? (i := 1192) (by decide +kernel), List.mem_of_getElem? (i := 1193) (by decide +kernel)⟩
theorem lw_p56 : lw_okq (⟨"MonsoonTradeModel", "isText", "()Z"⟩, 59) := ⟨⟨by decide +kernel, by decide +kernel⟩, List.mem_of_getElem? (i := 1032) (by decide +kernel), List.mem_of_getElem? (i := 1386) (by decide +kernel), List.mem_of_getElem? (i := 1387) (by decide +kernel)⟩
theorem lw_p57 : lw_okq (⟨"MonsoonTradeModel", "next", "()V"⟩, 59) := ⟨⟨by decide +kernel, by decide +kernel⟩, List.mem_of_getElem? (i := 1032) (by decide +kernel), List.mem_of_getElem? (i := 1390) (by decide +kernel), List.mem_of_getElem? (i := 1391) (by decide +kernel)⟩
theorem lw_p58 : lw_okq (⟨"MonsoonTradeModel", "letter", "(I)I"⟩, 59) := ⟨⟨by decide +kernel, by decide +kernel⟩, List.mem_of_getElem? (i := 1032) (by decide +kernel), List.mem_of_getElem? (i := 1394) (by decide +kernel), List.mem_of_getElem? (i := 1395) (by decide +kernel)⟩
theorem lw_p59 : lw_okq (⟨"MonsoonTradeModel", "wordAt", "(II)I"⟩, 59) := ⟨⟨by decide +kernel, by decide +kernel⟩, List.mem_of_getElem? (i := 1032) (by decide +kernel), List.mem_of_getElem? (i := 1401) (by decide +kernel), List.mem_of_getElem? (i := 1402) (by decide +kernel)⟩
theorem lw_p60 : lw_okq (⟨"MonsoonTradeModel", "isRead", "(I)Z"⟩, 59) := ⟨⟨by decide +kernel, by decide +kernel⟩, List.mem_of_getElem? (i := 1032) (by decide +kernel), List.mem_of_getElem? (i := 1411) (by decide +kernel), List.mem_of_getElem? (i := 1412) (by decide +kernel)⟩
theorem lw_p61 : lw_okq (⟨"MonsoonTradeModel", "openMany", "()I"⟩, 59) := ⟨⟨by decide +kernel, by decide +kernel⟩, List.mem_of_getElem? (i := 1032) (by decide +kernel), List.mem_of_getElem? (i := 1415) (by decide +kernel), List.mem_of_getElem? (i := 1416) (by decide +kernel)⟩
theorem lw_p62 : lw_okq (⟨"MonsoonTradeModel", "settle", "(II)V"⟩, 59) := ⟨⟨by decide +kernel, by decide +kernel⟩, List.mem_of_getElem? (i := 1032) (by decide +kernel), List.mem_of_getElem? (i := 1419) (by decide +kernel), List.mem_of_getElem? (i := 1420) (by decide +kernel)⟩
theorem lw_p63 : lw_okq (⟨"MonsoonTradeModel", "waitsFor", "(I)Z"⟩, 59) := ⟨⟨by decide +kernel, by decide +kernel⟩, List.mem_of_getElem? (i := 1032) (by decide +kernel), List.mem_of_getElem? (i := 1426) (by decide +kernel), List.mem_of_getElem? (i := 1427) (by decide +kernel)⟩
def lw_privs_4 : List (MethodName × Nat) := [(⟨"MonsoonTradeModel", "isVenture", "(I)Z"⟩, 59), (⟨"MonsoonTradeModel", "value", "(IIIIIII)I"⟩, 59), (⟨"MonsoonTradeModel", "payBottoms", "(I)V"⟩, 59), (⟨"MonsoonTradeModel", "pay", "(III)V"⟩, 59), (⟨"MonsoonTradeModel", "weigh", "(I)J"⟩, 59), (⟨"MonsoonTradeModel", "takesPart", "(II)Z"⟩, 59), (⟨"MonsoonTradeModel", "part", "(IJJ)V"⟩, 59), (⟨"MonsoonTradeModel", "add", "(III)V"⟩, 59), (⟨"MonsoonTradeModel", "isText", "()Z"⟩, 59), (⟨"MonsoonTradeModel", "next", "()V"⟩, 59), (⟨"MonsoonTradeModel", "letter", "(I)I"⟩, 59), (⟨"MonsoonTradeModel", "wordAt", "(II)I"⟩, 59), (⟨"MonsoonTradeModel", "isRead", "(I)Z"⟩, 59), (⟨"MonsoonTradeModel", "openMany", "()I"⟩, 59), (⟨"MonsoonTradeModel", "settle", "(II)V"⟩, 59), (⟨"MonsoonTradeModel", "waitsFor", "(I)Z"⟩, 59)]
theorem lw_r4 : ∀ q ∈ lw_privs_4, lw_okq q := List.forall_mem_cons.mpr ⟨lw_p48, List.forall_mem_cons.mpr ⟨lw_p49, List.forall_mem_cons.mpr ⟨lw_p50, List.forall_mem_cons.mpr ⟨lw_p51, List.forall_mem_cons.mpr ⟨lw_p52, List.forall_mem_cons.mpr ⟨lw_p53, List.forall_mem_cons.mpr ⟨lw_p54, List.forall_mem_cons.mpr ⟨lw_p55, List.forall_mem_cons.mpr ⟨lw_p56, List.forall_mem_cons.mpr ⟨lw_p57, List.forall_mem_cons.mpr ⟨lw_p58, List.forall_mem_cons.mpr ⟨lw_p59, List.forall_mem_cons.mpr ⟨lw_p60, List.forall_mem_cons.mpr ⟨lw_p61, List.forall_mem_cons.mpr ⟨lw_p62, List.forall_mem_cons.mpr ⟨lw_p63, fun _ h => absurd h List.not_mem_nil⟩⟩⟩⟩⟩⟩⟩⟩⟩⟩⟩⟩⟩⟩⟩⟩
theorem lw_p64 : lw_okq (⟨"MonsoonTradeModel", "hasCompared", "()Z"⟩, 59) := ⟨⟨by decide +kernel, by decide +kernel⟩, List.mem_of_getElem? (i := 1032) (by decide +kernel), List.mem_of_getElem? (i := 1430) (by decide +kernel), List.mem_of_getElem? (i := 1431) (by decide +kernel)⟩
theorem lw_p65 : lw_okq (⟨"MonsoonTradeModel", "mayOrder", "(III)Z"⟩, 59) := ⟨⟨by decide +kernel, by decide +kernel⟩, List.mem_of_getElem? (i := 1032) (by decide +kernel), List.mem_of_getElem? (i := 1450) (by decide +kernel), List.mem_of_getElem? (i := 1451) (by decide +kernel)⟩
theorem lw_p66 : lw_okq (⟨"MonsoonTradeModel", "finds", "(III)Z"⟩, 59) := ⟨⟨by decide +kernel, by decide +kernel⟩, List.mem_of_getElem? (i := 1032) (by decide +kernel), List.mem_of_getElem? (i := 1454) (by decide +kernel), List.mem_of_getElem? (i := 1455) (by decide +kernel)⟩
theorem lw_p67 : lw_okq (⟨"MonsoonTradeModel", "takeWords", "(I)V"⟩, 59) := ⟨⟨by decide +kernel, by decide +kernel⟩, List.mem_of_getElem? (i := 1032) (by decide +kernel), List.mem_of_getElem? (i := 1458) (by decide +kernel), List.mem_of_getElem? (i := 1459) (by decide +kernel)⟩
theorem lw_p68 : lw_okq (⟨"MonsoonTradeModel", "goes", "(IIII)Z"⟩, 59) := ⟨⟨by decide +kernel, by decide +kernel⟩, List.mem_of_getElem? (i := 1032) (by decide +kernel), List.mem_of_getElem? (i := 1462) (by decide +kernel), List.mem_of_getElem? (i := 1463) (by decide +kernel)⟩
def lw_privs_5 : List (MethodName × Nat) := [(⟨"MonsoonTradeModel", "hasCompared", "()Z"⟩, 59), (⟨"MonsoonTradeModel", "mayOrder", "(III)Z"⟩, 59), (⟨"MonsoonTradeModel", "finds", "(III)Z"⟩, 59), (⟨"MonsoonTradeModel", "takeWords", "(I)V"⟩, 59), (⟨"MonsoonTradeModel", "goes", "(IIII)Z"⟩, 59)]
theorem lw_r5 : ∀ q ∈ lw_privs_5, lw_okq q := List.forall_mem_cons.mpr ⟨lw_p64, List.forall_mem_cons.mpr ⟨lw_p65, List.forall_mem_cons.mpr ⟨lw_p66, List.forall_mem_cons.mpr ⟨lw_p67, List.forall_mem_cons.mpr ⟨lw_p68, fun _ h => absurd h List.not_mem_nil⟩⟩⟩⟩⟩
def lw_privs : List (MethodName × Nat) := lw_privs_1 ++ (lw_privs_2 ++ (lw_privs_3 ++ (lw_privs_4 ++ (lw_privs_5))))
def lw_tbl : List Cond := k2_sels lw_privs ++ tables_1
theorem lw_privs_ok : ∀ q ∈ lw_privs, lw_okq q := by
  show ∀ q ∈ lw_privs_1 ++ (lw_privs_2 ++ (lw_privs_3 ++ (lw_privs_4 ++ (lw_privs_5)))), lw_okq q
  exact List.forall_mem_append.mpr ⟨lw_r1, List.forall_mem_append.mpr ⟨lw_r2, List.forall_mem_append.mpr ⟨lw_r3, List.forall_mem_append.mpr ⟨lw_r4, lw_r5⟩⟩⟩⟩
-- ===== end of PART A; then your names; then what follows =====
end
section
/-! ===== BEGIN words of one list among another's, by their places ===== -/
theorem goodIn_r {big : List Cond} (ws : List Cond) (ps : List Nat) (hp : ws = ps.filterMap (fun i => big[i]?)) (h : ws.all goodWord = true) : GoodIn big ws := by
  intro w hw
  have h1 := List.all_eq_true.mp h w hw
  rw [hp] at hw
  obtain ⟨i, -, hi⟩ := List.mem_filterMap.mp hw
  have hm : w ∈ big := by first | exact List.mem_of_getElem? hi | exact List.getElem?_mem hi
  exact ⟨hm, good_of_word h1⟩
theorem goodIn_app {big a b : List Cond} (ha : GoodIn big a) (hb : GoodIn big b) : GoodIn big (a ++ b) := fun w h => (List.mem_append.mp h).elim (ha w) (hb w)
theorem goodIn_ca {big a b : List Cond} {c : Cond} (ha : GoodIn big (c :: a)) (hb : GoodIn big b) : GoodIn big (c :: (a ++ b)) := fun w h => (List.mem_cons.mp h).elim (fun e => ha w (List.mem_cons.mpr (Or.inl e))) (fun h => (List.mem_append.mp h).elim (fun h => ha w (List.mem_cons.mpr (Or.inr h))) (hb w))
theorem goodIn_sub {big ws : List Cond} (hm : ∀ w ∈ ws, w ∈ big) (h : ws.all goodWord = true) : GoodIn big ws := fun w hw => ⟨hm w hw, good_of_word (List.all_eq_true.mp h w hw)⟩
/-! ===== END ===== -/

/-! ===== BEGIN printed: names, fields, word lists, decode rows ===== -/
def RX0 : String := "MonsoonTrade$Dhow"
def TX0 : u_T := fun k => match k with
  | 0 => ("MonsoonTrade$Dhow", "port", "I", false)
  | 1 => ("MonsoonTrade$Dhow", "comes", "I", false)
  | 2 => ("MonsoonTrade$Dhow", "lost", "Z", false)
  | 3 => ("MonsoonTrade$Dhow", "hold", "I", false)
  | 4 => ("MonsoonTrade$Dhow", "purse", "I", false)
  | 5 => ("MonsoonTrade$Dhow", "goods", "[I", true)
  | 6 => ("MonsoonTrade$Dhow", "stake", "I", false)
  | 7 => ("MonsoonTrade$Dhow", "began", "I", false)
  | _ => ("MonsoonTrade$Dhow", "news", "LMonsoonTrade$News;", true)
def tyX0 : Nat → FieldType := fun k => match k with
  | 0 => .int
  | 1 => .int
  | 2 => .boolean
  | 3 => .int
  | 4 => .int
  | 5 => .array .int
  | 6 => .int
  | 7 => .int
  | _ => .object "MonsoonTrade$News"
abbrev wsX00 : List Cond := u_ws RX0 TX0 9
theorem nmX0 : ∀ a, a < 9 → ∀ b, b < 9 → a ≠ b → (TX0 a).2.1 ≠ (TX0 b).2.1 := by decide +kernel
theorem tyX0_ok : ∀ k, k < 9 → parseFieldDescriptor (TX0 k).2.2.1 = some (tyX0 k) := by decide +kernel
abbrev cX0_init : ByteArray := prog_2_method_1_code
def yX0_init : MethodName := ⟨RX0, "<init>", "()V"⟩
abbrev cX0_inPort : ByteArray := prog_2_method_2_code
def yX0_inPort : MethodName := ⟨RX0, "inPort", "()Z"⟩
abbrev cX0_atSea : ByteArray := prog_2_method_3_code
def yX0_atSea : MethodName := ⟨RX0, "atSea", "()Z"⟩
abbrev cX0_onVoyage : ByteArray := prog_2_method_4_code
def yX0_onVoyage : MethodName := ⟨RX0, "onVoyage", "()Z"⟩
abbrev cX0_aboard : ByteArray := prog_2_method_5_code
def yX0_aboard : MethodName := ⟨RX0, "aboard", "()I"⟩
abbrev cX0_pay : ByteArray := prog_2_method_6_code
def yX0_pay : MethodName := ⟨RX0, "pay", "(I)I"⟩
abbrev cX0_goDown : ByteArray := prog_2_method_7_code
def yX0_goDown : MethodName := ⟨RX0, "goDown", "()V"⟩
def RX1 : String := "MonsoonTrade$News"
def TX1 : u_T := fun k => match k with
  | 0 => ("MonsoonTrade$News", "ofDay", "[I", true)
  | _ => ("MonsoonTrade$News", "prices", "[I", true)
def tyX1 : Nat → FieldType := fun k => match k with
  | 0 => .array .int
  | _ => .array .int
abbrev wsX10 : List Cond := u_ws RX1 TX1 2
theorem nmX1 : ∀ a, a < 2 → ∀ b, b < 2 → a ≠ b → (TX1 a).2.1 ≠ (TX1 b).2.1 := by decide +kernel
theorem tyX1_ok : ∀ k, k < 2 → parseFieldDescriptor (TX1 k).2.2.1 = some (tyX1 k) := by decide +kernel
abbrev cX1_init : ByteArray := prog_3_method_1_code
def yX1_init : MethodName := ⟨RX1, "<init>", "()V"⟩
abbrev cX1_forget : ByteArray := prog_3_method_2_code
def yX1_forget : MethodName := ⟨RX1, "forget", "()V"⟩
abbrev cX1_knows : ByteArray := prog_3_method_3_code
def yX1_knows : MethodName := ⟨RX1, "knows", "(I)Z"⟩
abbrev cX1_priceOf : ByteArray := prog_3_method_4_code
def yX1_priceOf : MethodName := ⟨RX1, "priceOf", "(II)I"⟩
abbrev cX1_note : ByteArray := prog_3_method_5_code
def yX1_note : MethodName := ⟨RX1, "note", "(IILMonsoonTrade$Port;)V"⟩
abbrev cX1_hear : ByteArray := prog_3_method_6_code
def yX1_hear : MethodName := ⟨RX1, "hear", "(LMonsoonTrade$News;)V"⟩
def RX2 : String := "MonsoonTrade$Planner"
def TX2 : u_T := fun k => match k with
  | 0 => ("MonsoonTrade$Planner", "sea", "LMonsoonTrade$Sea;", true)
  | 1 => ("MonsoonTrade$Planner", "news", "LMonsoonTrade$News;", true)
  | 2 => ("MonsoonTrade$Planner", "goods", "[I", true)
  | 3 => ("MonsoonTrade$Planner", "stops", "[I", true)
  | 4 => ("MonsoonTrade$Planner", "port", "I", false)
  | 5 => ("MonsoonTrade$Planner", "day", "I", false)
  | 6 => ("MonsoonTrade$Planner", "coins", "I", false)
  | 7 => ("MonsoonTrade$Planner", "hold", "I", false)
  | 8 => ("MonsoonTrade$Planner", "last", "I", false)
  | 9 => ("MonsoonTrade$Planner", "worth", "I", false)
  | 10 => ("MonsoonTrade$Planner", "legs", "I", false)
  | _ => ("MonsoonTrade$Planner", "comes", "I", false)
def tyX2 : Nat → FieldType := fun k => match k with
  | 0 => .object "MonsoonTrade$Sea"
  | 1 => .object "MonsoonTrade$News"
  | 2 => .array .int
  | 3 => .array .int
  | 4 => .int
  | 5 => .int
  | 6 => .int
  | 7 => .int
  | 8 => .int
  | 9 => .int
  | 10 => .int
  | _ => .int
abbrev wsX20 : List Cond := u_ws RX2 TX2 12
theorem nmX2 : ∀ a, a < 12 → ∀ b, b < 12 → a ≠ b → (TX2 a).2.1 ≠ (TX2 b).2.1 := by decide +kernel
theorem tyX2_ok : ∀ k, k < 12 → parseFieldDescriptor (TX2 k).2.2.1 = some (tyX2 k) := by decide +kernel
abbrev cX2_init : ByteArray := prog_4_method_1_code
def yX2_init : MethodName := ⟨RX2, "<init>", "(LMonsoonTrade$Sea;)V"⟩
abbrev cX2_learn : ByteArray := prog_4_method_2_code
def yX2_learn : MethodName := ⟨RX2, "learn", "(LMonsoonTrade$Dhow;II)V"⟩
abbrev cX2_find : ByteArray := prog_4_method_3_code
def yX2_find : MethodName := ⟨RX2, "find", "(I)V"⟩
abbrev cX2_most : ByteArray := prog_4_method_4_code
def yX2_most : MethodName := ⟨RX2, "most", "(IIII)I"⟩
abbrev cX2_mostByOneLeg : ByteArray := prog_4_method_5_code
def yX2_mostByOneLeg : MethodName := ⟨RX2, "mostByOneLeg", "(III)I"⟩
abbrev cX2_trace : ByteArray := prog_4_method_6_code
def yX2_trace : MethodName := ⟨RX2, "trace", "()V"⟩
abbrev cX2_choose : ByteArray := prog_4_method_7_code
def yX2_choose : MethodName := ⟨RX2, "choose", "(III)V"⟩
abbrev cX2_arrival : ByteArray := prog_4_method_8_code
def yX2_arrival : MethodName := ⟨RX2, "arrival", "(III)I"⟩
abbrev cX2_coinsAfter : ByteArray := prog_4_method_9_code
def yX2_coinsAfter : MethodName := ⟨RX2, "coinsAfter", "(IIII)I"⟩
def RX3 : String := "MonsoonTrade$Port"
def TX3 : u_T := fun k => match k with
  | 0 => ("MonsoonTrade$Port", "x", "I", false)
  | 1 => ("MonsoonTrade$Port", "y", "I", false)
  | 2 => ("MonsoonTrade$Port", "base", "[I", true)
  | 3 => ("MonsoonTrade$Port", "fall", "[I", true)
  | 4 => ("MonsoonTrade$Port", "landed", "[I", true)
  | _ => ("MonsoonTrade$Port", "news", "LMonsoonTrade$News;", true)
def tyX3 : Nat → FieldType := fun k => match k with
  | 0 => .int
  | 1 => .int
  | 2 => .array .int
  | 3 => .array .int
  | 4 => .array .int
  | _ => .object "MonsoonTrade$News"
abbrev wsX30 : List Cond := u_ws RX3 TX3 6
theorem nmX3 : ∀ a, a < 6 → ∀ b, b < 6 → a ≠ b → (TX3 a).2.1 ≠ (TX3 b).2.1 := by decide +kernel
theorem tyX3_ok : ∀ k, k < 6 → parseFieldDescriptor (TX3 k).2.2.1 = some (tyX3 k) := by decide +kernel
abbrev cX3_init : ByteArray := prog_5_method_1_code
def yX3_init : MethodName := ⟨RX3, "<init>", "()V"⟩
abbrev cX3_priceOf : ByteArray := prog_5_method_2_code
def yX3_priceOf : MethodName := ⟨RX3, "priceOf", "(I)I"⟩
def RX4 : String := "MonsoonTrade$Reader"
def TX4 : u_T := fun k => match k with
  | 0 => ("MonsoonTrade$Reader", "tokens", "LMonsoonTrade$Tokens;", true)
  | 1 => ("MonsoonTrade$Reader", "code", "[I", true)
  | 2 => ("MonsoonTrade$Reader", "ends", "[I", true)
  | 3 => ("MonsoonTrade$Reader", "used", "I", false)
  | 4 => ("MonsoonTrade$Reader", "open", "I", false)
  | _ => ("MonsoonTrade$Reader", "fault", "I", false)
def tyX4 : Nat → FieldType := fun k => match k with
  | 0 => .object "MonsoonTrade$Tokens"
  | 1 => .array .int
  | 2 => .array .int
  | 3 => .int
  | 4 => .int
  | _ => .int
abbrev wsX40 : List Cond := u_ws RX4 TX4 6
theorem nmX4 : ∀ a, a < 6 → ∀ b, b < 6 → a ≠ b → (TX4 a).2.1 ≠ (TX4 b).2.1 := by decide +kernel
theorem tyX4_ok : ∀ k, k < 6 → parseFieldDescriptor (TX4 k).2.2.1 = some (tyX4 k) := by decide +kernel
abbrev cX4_init : ByteArray := prog_6_method_1_code
def yX4_init : MethodName := ⟨RX4, "<init>", "(LMonsoonTrade$Tokens;)V"⟩
abbrev cX4_read : ByteArray := prog_6_method_2_code
def yX4_read : MethodName := ⟨RX4, "read", "()I"⟩
abbrev cX4_readPart : ByteArray := prog_6_method_3_code
def yX4_readPart : MethodName := ⟨RX4, "readPart", "(II)V"⟩
abbrev cX4_readOr : ByteArray := prog_6_method_4_code
def yX4_readOr : MethodName := ⟨RX4, "readOr", "()V"⟩
abbrev cX4_readAnd : ByteArray := prog_6_method_5_code
def yX4_readAnd : MethodName := ⟨RX4, "readAnd", "()V"⟩
abbrev cX4_readNot : ByteArray := prog_6_method_6_code
def yX4_readNot : MethodName := ⟨RX4, "readNot", "()V"⟩
abbrev cX4_readComparison : ByteArray := prog_6_method_7_code
def yX4_readComparison : MethodName := ⟨RX4, "readComparison", "()V"⟩
abbrev cX4_readSum : ByteArray := prog_6_method_8_code
def yX4_readSum : MethodName := ⟨RX4, "readSum", "()V"⟩
abbrev cX4_readTerm : ByteArray := prog_6_method_9_code
def yX4_readTerm : MethodName := ⟨RX4, "readTerm", "()V"⟩
abbrev cX4_readOne : ByteArray := prog_6_method_10_code
def yX4_readOne : MethodName := ⟨RX4, "readOne", "()V"⟩
abbrev cX4_readNegated : ByteArray := prog_6_method_11_code
def yX4_readNegated : MethodName := ⟨RX4, "readNegated", "()V"⟩
abbrev cX4_readBracket : ByteArray := prog_6_method_12_code
def yX4_readBracket : MethodName := ⟨RX4, "readBracket", "()V"⟩
abbrev cX4_enter : ByteArray := prog_6_method_13_code
def yX4_enter : MethodName := ⟨RX4, "enter", "()Z"⟩
abbrev cX4_require : ByteArray := prog_6_method_14_code
def yX4_require : MethodName := ⟨RX4, "require", "(I)V"⟩
abbrev cX4_fail : ByteArray := prog_6_method_15_code
def yX4_fail : MethodName := ⟨RX4, "fail", "()V"⟩
abbrev cX4_emit : ByteArray := prog_6_method_16_code
def yX4_emit : MethodName := ⟨RX4, "emit", "(I)V"⟩
def RX5 : String := "MonsoonTrade$Reckoner"
def TX5 : u_T := fun k => match k with
  | 0 => ("MonsoonTrade$Reckoner", "values", "[I", true)
  | 1 => ("MonsoonTrade$Reckoner", "stack", "[I", true)
  | _ => ("MonsoonTrade$Reckoner", "top", "I", false)
def tyX5 : Nat → FieldType := fun k => match k with
  | 0 => .array .int
  | 1 => .array .int
  | _ => .int
abbrev wsX50 : List Cond := u_ws RX5 TX5 3
theorem nmX5 : ∀ a, a < 3 → ∀ b, b < 3 → a ≠ b → (TX5 a).2.1 ≠ (TX5 b).2.1 := by decide +kernel
theorem tyX5_ok : ∀ k, k < 3 → parseFieldDescriptor (TX5 k).2.2.1 = some (tyX5 k) := by decide +kernel
abbrev cX5_init : ByteArray := prog_7_method_1_code
def yX5_init : MethodName := ⟨RX5, "<init>", "()V"⟩
abbrev cX5_setVoyage : ByteArray := prog_7_method_2_code
def yX5_setVoyage : MethodName := ⟨RX5, "setVoyage", "(IIII)V"⟩
abbrev cX5_setOwn : ByteArray := prog_7_method_3_code
def yX5_setOwn : MethodName := ⟨RX5, "setOwn", "(II)V"⟩
abbrev cX5_reckon : ByteArray := prog_7_method_4_code
def yX5_reckon : MethodName := ⟨RX5, "reckon", "(LMonsoonTrade$Text;I)I"⟩
abbrev cX5_step : ByteArray := prog_7_method_5_code
def yX5_step : MethodName := ⟨RX5, "step", "(I)V"⟩
abbrev cX5_join : ByteArray := prog_7_method_6_code
def yX5_join : MethodName := ⟨RX5, "join", "(III)I"⟩
abbrev cX5_push : ByteArray := prog_7_method_7_code
def yX5_push : MethodName := ⟨RX5, "push", "(I)V"⟩
abbrev cX5_pop : ByteArray := prog_7_method_8_code
def yX5_pop : MethodName := ⟨RX5, "pop", "()I"⟩
def RX6 : String := "MonsoonTrade$Sea"
def TX6 : u_T := fun k => match k with
  | 0 => ("MonsoonTrade$Sea", "ports", "[LMonsoonTrade$Port;", true)
  | 1 => ("MonsoonTrade$Sea", "blowing", "[I", true)
  | _ => ("MonsoonTrade$Sea", "size", "I", false)
def tyX6 : Nat → FieldType := fun k => match k with
  | 0 => .array (.object "MonsoonTrade$Port")
  | 1 => .array .int
  | _ => .int
abbrev wsX60 : List Cond := u_ws RX6 TX6 3
theorem nmX6 : ∀ a, a < 3 → ∀ b, b < 3 → a ≠ b → (TX6 a).2.1 ≠ (TX6 b).2.1 := by decide +kernel
theorem tyX6_ok : ∀ k, k < 3 → parseFieldDescriptor (TX6 k).2.2.1 = some (tyX6 k) := by decide +kernel
abbrev cX6_init : ByteArray := prog_8_method_1_code
def yX6_init : MethodName := ⟨RX6, "<init>", "()V"⟩
abbrev cX6_has : ByteArray := prog_8_method_2_code
def yX6_has : MethodName := ⟨RX6, "has", "(I)Z"⟩
abbrev cX6_found : ByteArray := prog_8_method_3_code
def yX6_found : MethodName := ⟨RX6, "found", "(II)I"⟩
abbrev cX6_tellItself : ByteArray := prog_8_method_4_code
def yX6_tellItself : MethodName := ⟨RX6, "tellItself", "(II)V"⟩
abbrev cX6_crossing : ByteArray := prog_8_method_5_code
def yX6_crossing : MethodName := ⟨RX6, "crossing", "(III)I"⟩
def RX7 : String := "MonsoonTrade$Sheet"
def TX7 : u_T := fun k => match k with
  | 0 => ("MonsoonTrade$Sheet", "cells", "[I", true)
  | 1 => ("MonsoonTrade$Sheet", "sort", "I", false)
  | _ => ("MonsoonTrade$Sheet", "size", "I", false)
def tyX7 : Nat → FieldType := fun k => match k with
  | 0 => .array .int
  | 1 => .int
  | _ => .int
abbrev wsX70 : List Cond := u_ws RX7 TX7 3
theorem nmX7 : ∀ a, a < 3 → ∀ b, b < 3 → a ≠ b → (TX7 a).2.1 ≠ (TX7 b).2.1 := by decide +kernel
theorem tyX7_ok : ∀ k, k < 3 → parseFieldDescriptor (TX7 k).2.2.1 = some (tyX7 k) := by decide +kernel
abbrev cX7_init : ByteArray := prog_9_method_1_code
def yX7_init : MethodName := ⟨RX7, "<init>", "()V"⟩
abbrev cX7_missing : ByteArray := prog_9_method_2_code
def yX7_missing : MethodName := ⟨RX7, "missing", "()Z"⟩
abbrev cX7_holds : ByteArray := prog_9_method_3_code
def yX7_holds : MethodName := ⟨RX7, "holds", "(I)Z"⟩
abbrev cX7_become : ByteArray := prog_9_method_4_code
def yX7_become : MethodName := ⟨RX7, "become", "(II)V"⟩
abbrev cX7_put : ByteArray := prog_9_method_5_code
def yX7_put : MethodName := ⟨RX7, "put", "(II)V"⟩
def RX8 : String := "MonsoonTrade$Text"
def TX8 : u_T := fun k => match k with
  | 0 => ("MonsoonTrade$Text", "code", "[I", false)
  | _ => ("MonsoonTrade$Text", "ends", "[I", true)
def tyX8 : Nat → FieldType := fun k => match k with
  | 0 => .array .int
  | _ => .array .int
abbrev wsX80 : List Cond := u_ws RX8 TX8 2
theorem nmX8 : ∀ a, a < 2 → ∀ b, b < 2 → a ≠ b → (TX8 a).2.1 ≠ (TX8 b).2.1 := by decide +kernel
theorem tyX8_ok : ∀ k, k < 2 → parseFieldDescriptor (TX8 k).2.2.1 = some (tyX8 k) := by decide +kernel
abbrev cX8_init : ByteArray := prog_10_method_1_code
def yX8_init : MethodName := ⟨RX8, "<init>", "()V"⟩
abbrev cX8_keep : ByteArray := prog_10_method_2_code
def yX8_keep : MethodName := ⟨RX8, "keep", "(LMonsoonTrade$Reader;)V"⟩
abbrev cX8_firstOf : ByteArray := prog_10_method_3_code
def yX8_firstOf : MethodName := ⟨RX8, "firstOf", "(I)I"⟩
def RX9 : String := "MonsoonTrade$Tokens"
def TX9 : u_T := fun k => match k with
  | 0 => ("MonsoonTrade$Tokens", "bytes", "[B", true)
  | 1 => ("MonsoonTrade$Tokens", "size", "I", false)
  | 2 => ("MonsoonTrade$Tokens", "place", "I", false)
  | 3 => ("MonsoonTrade$Tokens", "kind", "I", false)
  | 4 => ("MonsoonTrade$Tokens", "start", "I", false)
  | _ => ("MonsoonTrade$Tokens", "number", "I", false)
def tyX9 : Nat → FieldType := fun k => match k with
  | 0 => .array .byte
  | 1 => .int
  | 2 => .int
  | 3 => .int
  | 4 => .int
  | _ => .int
abbrev wsX90 : List Cond := u_ws RX9 TX9 6
theorem nmX9 : ∀ a, a < 6 → ∀ b, b < 6 → a ≠ b → (TX9 a).2.1 ≠ (TX9 b).2.1 := by decide +kernel
theorem tyX9_ok : ∀ k, k < 6 → parseFieldDescriptor (TX9 k).2.2.1 = some (tyX9 k) := by decide +kernel
abbrev cX9_init : ByteArray := prog_11_method_1_code
def yX9_init : MethodName := ⟨RX9, "<init>", "()V"⟩
abbrev cX9_add : ByteArray := prog_11_method_2_code
def yX9_add : MethodName := ⟨RX9, "add", "(B)V"⟩
abbrev cX9_addAll : ByteArray := prog_11_method_3_code
def yX9_addAll : MethodName := ⟨RX9, "addAll", "(Ljava/lang/String;)V"⟩
abbrev cX9_clear : ByteArray := prog_11_method_4_code
def yX9_clear : MethodName := ⟨RX9, "clear", "()V"⟩
abbrev cX9_first : ByteArray := prog_11_method_5_code
def yX9_first : MethodName := ⟨RX9, "first", "()V"⟩
abbrev cX9_next : ByteArray := prog_11_method_6_code
def yX9_next : MethodName := ⟨RX9, "next", "()V"⟩
abbrev cX9_takeWord : ByteArray := prog_11_method_7_code
def yX9_takeWord : MethodName := ⟨RX9, "takeWord", "()V"⟩
abbrev cX9_takeNumber : ByteArray := prog_11_method_8_code
def yX9_takeNumber : MethodName := ⟨RX9, "takeNumber", "()V"⟩
abbrev cX9_takeSign : ByteArray := prog_11_method_9_code
def yX9_takeSign : MethodName := ⟨RX9, "takeSign", "()V"⟩
abbrev cX9_isBlank : ByteArray := prog_11_method_10_code
def yX9_isBlank : MethodName := ⟨RX9, "isBlank", "(B)Z"⟩
abbrev cX9_isLetter : ByteArray := prog_11_method_11_code
def yX9_isLetter : MethodName := ⟨RX9, "isLetter", "(B)Z"⟩
abbrev cX9_isDigit : ByteArray := prog_11_method_12_code
def yX9_isDigit : MethodName := ⟨RX9, "isDigit", "(B)Z"⟩
def RX10 : String := "MonsoonTrade$Venture"
def TX10 : u_T := fun k => match k with
  | 0 => ("MonsoonTrade$Venture", "kind", "I", false)
  | 1 => ("MonsoonTrade$Venture", "dhow", "I", false)
  | 2 => ("MonsoonTrade$Venture", "amount", "I", false)
  | 3 => ("MonsoonTrade$Venture", "parts", "I", false)
  | 4 => ("MonsoonTrade$Venture", "owed", "I", false)
  | 5 => ("MonsoonTrade$Venture", "got", "I", false)
  | 6 => ("MonsoonTrade$Venture", "weight", "I", false)
  | _ => ("MonsoonTrade$Venture", "over", "Z", false)
def tyX10 : Nat → FieldType := fun k => match k with
  | 0 => .int
  | 1 => .int
  | 2 => .int
  | 3 => .int
  | 4 => .int
  | 5 => .int
  | 6 => .int
  | _ => .boolean
abbrev wsX100 : List Cond := u_ws RX10 TX10 8
theorem nmX10 : ∀ a, a < 8 → ∀ b, b < 8 → a ≠ b → (TX10 a).2.1 ≠ (TX10 b).2.1 := by decide +kernel
theorem tyX10_ok : ∀ k, k < 8 → parseFieldDescriptor (TX10 k).2.2.1 = some (tyX10 k) := by decide +kernel
abbrev cX10_init : ByteArray := prog_12_method_1_code
def yX10_init : MethodName := ⟨RX10, "<init>", "()V"⟩
abbrev cX10_found : ByteArray := prog_12_method_2_code
def yX10_found : MethodName := ⟨RX10, "found", "(IIII)V"⟩
abbrev cX10_brings : ByteArray := prog_12_method_3_code
def yX10_brings : MethodName := ⟨RX10, "brings", "()I"⟩
abbrev cX10_isOn : ByteArray := prog_12_method_4_code
def yX10_isOn : MethodName := ⟨RX10, "isOn", "(I)Z"⟩
abbrev cX10_waits : ByteArray := prog_12_method_5_code
def yX10_waits : MethodName := ⟨RX10, "waits", "()Z"⟩
abbrev cX10_goDown : ByteArray := prog_12_method_6_code
def yX10_goDown : MethodName := ⟨RX10, "goDown", "()V"⟩
abbrev cX10_isOfKind : ByteArray := prog_12_method_7_code
def yX10_isOfKind : MethodName := ⟨RX10, "isOfKind", "(I)Z"⟩
def RX11 : String := "MonsoonTrade"
def TX11 : u_T := fun k => match k with
  | 0 => ("MonsoonTrade", "sea", "LMonsoonTrade$Sea;", true)
  | 1 => ("MonsoonTrade", "dhows", "[LMonsoonTrade$Dhow;", true)
  | 2 => ("MonsoonTrade", "ventures", "[LMonsoonTrade$Venture;", true)
  | 3 => ("MonsoonTrade", "texts", "[LMonsoonTrade$Text;", true)
  | 4 => ("MonsoonTrade", "sheets", "[LMonsoonTrade$Sheet;", true)
  | 5 => ("MonsoonTrade", "tape", "LMonsoonTrade$Tokens;", true)
  | 6 => ("MonsoonTrade", "reader", "LMonsoonTrade$Reader;", true)
  | 7 => ("MonsoonTrade", "reckoner", "LMonsoonTrade$Reckoner;", true)
  | 8 => ("MonsoonTrade", "planner", "LMonsoonTrade$Planner;", true)
  | 9 => ("MonsoonTrade", "dhowCount", "I", false)
  | 10 => ("MonsoonTrade", "ventureCount", "I", false)
  | 11 => ("MonsoonTrade", "textCount", "I", false)
  | 12 => ("MonsoonTrade", "rule", "I", false)
  | _ => ("MonsoonTrade", "today", "I", false)
def tyX11 : Nat → FieldType := fun k => match k with
  | 0 => .object "MonsoonTrade$Sea"
  | 1 => .array (.object "MonsoonTrade$Dhow")
  | 2 => .array (.object "MonsoonTrade$Venture")
  | 3 => .array (.object "MonsoonTrade$Text")
  | 4 => .array (.object "MonsoonTrade$Sheet")
  | 5 => .object "MonsoonTrade$Tokens"
  | 6 => .object "MonsoonTrade$Reader"
  | 7 => .object "MonsoonTrade$Reckoner"
  | 8 => .object "MonsoonTrade$Planner"
  | 9 => .int
  | 10 => .int
  | 11 => .int
  | 12 => .int
  | _ => .int
abbrev wsX110 : List Cond := u_ws RX11 TX11 14
theorem nmX11 : ∀ a, a < 14 → ∀ b, b < 14 → a ≠ b → (TX11 a).2.1 ≠ (TX11 b).2.1 := by decide +kernel
theorem tyX11_ok : ∀ k, k < 14 → parseFieldDescriptor (TX11 k).2.2.1 = some (tyX11 k) := by decide +kernel
abbrev cX11_init : ByteArray := prog_1_method_1_code
def yX11_init : MethodName := ⟨RX11, "<init>", "()V"⟩
abbrev cX11_port : ByteArray := prog_1_method_2_code
def yX11_port : MethodName := ⟨RX11, "port", "(II)I"⟩
abbrev cX11_wants : ByteArray := prog_1_method_3_code
def yX11_wants : MethodName := ⟨RX11, "wants", "(IIII)I"⟩
abbrev cX11_price : ByteArray := prog_1_method_4_code
def yX11_price : MethodName := ⟨RX11, "price", "(II)I"⟩
abbrev cX11_wind : ByteArray := prog_1_method_5_code
def yX11_wind : MethodName := ⟨RX11, "wind", "(II)I"⟩
abbrev cX11_winds : ByteArray := prog_1_method_6_code
def yX11_winds : MethodName := ⟨RX11, "winds", "(IIII)I"⟩
abbrev cX11_way : ByteArray := prog_1_method_7_code
def yX11_way : MethodName := ⟨RX11, "way", "(III)I"⟩
abbrev cX11_dhow : ByteArray := prog_1_method_8_code
def yX11_dhow : MethodName := ⟨RX11, "dhow", "(III)I"⟩
abbrev cX11_told : ByteArray := prog_1_method_9_code
def yX11_told : MethodName := ⟨RX11, "told", "(II)I"⟩
abbrev cX11_good : ByteArray := prog_1_method_10_code
def yX11_good : MethodName := ⟨RX11, "good", "(II)I"⟩
abbrev cX11_sell : ByteArray := prog_1_method_11_code
def yX11_sell : MethodName := ⟨RX11, "sell", "(III)I"⟩
abbrev cX11_buy : ByteArray := prog_1_method_12_code
def yX11_buy : MethodName := ⟨RX11, "buy", "(III)I"⟩
abbrev cX11_sail : ByteArray := prog_1_method_13_code
def yX11_sail : MethodName := ⟨RX11, "sail", "(II)I"⟩
abbrev cX11_days : ByteArray := prog_1_method_14_code
def yX11_days : MethodName := ⟨RX11, "days", "(I)I"⟩
abbrev cX11_lose : ByteArray := prog_1_method_15_code
def yX11_lose : MethodName := ⟨RX11, "lose", "(I)I"⟩
abbrev cX11_heard : ByteArray := prog_1_method_16_code
def yX11_heard : MethodName := ⟨RX11, "heard", "(IIII)I"⟩
abbrev cX11_venture : ByteArray := prog_1_method_17_code
def yX11_venture : MethodName := ⟨RX11, "venture", "(IIII)I"⟩
abbrev cX11_ventureTold : ByteArray := prog_1_method_18_code
def yX11_ventureTold : MethodName := ⟨RX11, "ventureTold", "(II)I"⟩
abbrev cX11_on : ByteArray := prog_1_method_19_code
def yX11_on : MethodName := ⟨RX11, "on", "(II)I"⟩
abbrev cX11_begin : ByteArray := prog_1_method_20_code
def yX11_begin : MethodName := ⟨RX11, "begin", "(I)I"⟩
abbrev cX11_end : ByteArray := prog_1_method_21_code
def yX11_end : MethodName := ⟨RX11, "end", "(I)I"⟩
abbrev cX11_feed : ByteArray := prog_1_method_22_code
def yX11_feed : MethodName := ⟨RX11, "feed", "(IJ)I"⟩
abbrev cX11_text : ByteArray := prog_1_method_23_code
def yX11_text : MethodName := ⟨RX11, "text", "()I"⟩
abbrev cX11_force : ByteArray := prog_1_method_24_code
def yX11_force : MethodName := ⟨RX11, "force", "(I)I"⟩
abbrev cX11_says : ByteArray := prog_1_method_25_code
def yX11_says : MethodName := ⟨RX11, "says", "(IIIIIII)J"⟩
abbrev cX11_order : ByteArray := prog_1_method_26_code
def yX11_order : MethodName := ⟨RX11, "order", "(IIII)J"⟩
abbrev cX11_leg : ByteArray := prog_1_method_27_code
def yX11_leg : MethodName := ⟨RX11, "leg", "(IIII)I"⟩
abbrev cX11_count : ByteArray := prog_1_method_28_code
def yX11_count : MethodName := ⟨RX11, "count", "(I)I"⟩
abbrev cX11_sheet : ByteArray := prog_1_method_29_code
def yX11_sheet : MethodName := ⟨RX11, "sheet", "(III)I"⟩
abbrev cX11_cell : ByteArray := prog_1_method_30_code
def yX11_cell : MethodName := ⟨RX11, "cell", "(III)I"⟩
abbrev cX11_taken : ByteArray := prog_1_method_31_code
def yX11_taken : MethodName := ⟨RX11, "taken", "(II)I"⟩
abbrev cX11_within : ByteArray := prog_1_method_32_code
def yX11_within : MethodName := ⟨RX11, "within", "(III)Z"⟩
abbrev cX11_clamp : ByteArray := prog_1_method_33_code
def yX11_clamp : MethodName := ⟨RX11, "clamp", "(III)I"⟩
abbrev cX11_monthOf : ByteArray := prog_1_method_34_code
def yX11_monthOf : MethodName := ⟨RX11, "monthOf", "(I)I"⟩
abbrev cX11_isGood : ByteArray := prog_1_method_35_code
def yX11_isGood : MethodName := ⟨RX11, "isGood", "(I)Z"⟩
abbrev cX11_isSheet : ByteArray := prog_1_method_36_code
def yX11_isSheet : MethodName := ⟨RX11, "isSheet", "(I)Z"⟩
abbrev cX11_isDhow : ByteArray := prog_1_method_37_code
def yX11_isDhow : MethodName := ⟨RX11, "isDhow", "(I)Z"⟩
abbrev cX11_isVenture : ByteArray := prog_1_method_38_code
def yX11_isVenture : MethodName := ⟨RX11, "isVenture", "(I)Z"⟩
abbrev cX11_isText : ByteArray := prog_1_method_39_code
def yX11_isText : MethodName := ⟨RX11, "isText", "(I)Z"⟩
abbrev cX11_isPlan : ByteArray := prog_1_method_40_code
def yX11_isPlan : MethodName := ⟨RX11, "isPlan", "(III)Z"⟩
abbrev cX11_bringIn : ByteArray := prog_1_method_41_code
def yX11_bringIn : MethodName := ⟨RX11, "bringIn", "()V"⟩
abbrev cX11_exchangeNews : ByteArray := prog_1_method_42_code
def yX11_exchangeNews : MethodName := ⟨RX11, "exchangeNews", "(LMonsoonTrade$Dhow;)V"⟩
abbrev cX11_plan : ByteArray := prog_1_method_43_code
def yX11_plan : MethodName := ⟨RX11, "plan", "(III)Z"⟩
abbrev cX11_lostDhows : ByteArray := prog_1_method_44_code
def yX11_lostDhows : MethodName := ⟨RX11, "lostDhows", "()I"⟩
abbrev cX11_openVentures : ByteArray := prog_1_method_45_code
def yX11_openVentures : MethodName := ⟨RX11, "openVentures", "()I"⟩
abbrev cX11_menOf : ByteArray := prog_1_method_46_code
def yX11_menOf : MethodName := ⟨RX11, "menOf", "(I)I"⟩
abbrev cX11_payBottoms : ByteArray := prog_1_method_47_code
def yX11_payBottoms : MethodName := ⟨RX11, "payBottoms", "(I)V"⟩
abbrev cX11_weighAll : ByteArray := prog_1_method_48_code
def yX11_weighAll : MethodName := ⟨RX11, "weighAll", "(I)J"⟩
abbrev cX11_weigh : ByteArray := prog_1_method_49_code
def yX11_weigh : MethodName := ⟨RX11, "weigh", "(LMonsoonTrade$Venture;)I"⟩
abbrev cX11_partWith : ByteArray := prog_1_method_50_code
def yX11_partWith : MethodName := ⟨RX11, "partWith", "(LMonsoonTrade$Venture;LMonsoonTrade$Dhow;IJ)V"⟩
def RX12 : String := "MonsoonTradeModel"
def TX12 : u_T := fun k => match k with
  | 0 => ("MonsoonTradeModel", "day", "I", false)
  | 1 => ("MonsoonTradeModel", "ports", "I", false)
  | 2 => ("MonsoonTradeModel", "px", "[I", true)
  | 3 => ("MonsoonTradeModel", "py", "[I", true)
  | 4 => ("MonsoonTradeModel", "base", "[I", true)
  | 5 => ("MonsoonTradeModel", "fall", "[I", true)
  | 6 => ("MonsoonTradeModel", "landed", "[I", true)
  | 7 => ("MonsoonTradeModel", "winds", "[I", true)
  | 8 => ("MonsoonTradeModel", "dhows", "I", false)
  | 9 => ("MonsoonTradeModel", "place", "[I", true)
  | 10 => ("MonsoonTradeModel", "comes", "[I", true)
  | 11 => ("MonsoonTradeModel", "hold", "[I", true)
  | 12 => ("MonsoonTradeModel", "purse", "[I", true)
  | 13 => ("MonsoonTradeModel", "stake", "[I", true)
  | 14 => ("MonsoonTradeModel", "began", "[I", true)
  | 15 => ("MonsoonTradeModel", "isLost", "[Z", true)
  | 16 => ("MonsoonTradeModel", "aboard", "[I", true)
  | 17 => ("MonsoonTradeModel", "wordDay", "[I", true)
  | 18 => ("MonsoonTradeModel", "wordPrice", "[I", true)
  | 19 => ("MonsoonTradeModel", "ventures", "I", false)
  | 20 => ("MonsoonTradeModel", "kind", "[I", true)
  | 21 => ("MonsoonTradeModel", "on", "[I", true)
  | 22 => ("MonsoonTradeModel", "amount", "[I", true)
  | 23 => ("MonsoonTradeModel", "parts", "[I", true)
  | 24 => ("MonsoonTradeModel", "owed", "[I", true)
  | 25 => ("MonsoonTradeModel", "isOver", "[Z", true)
  | 26 => ("MonsoonTradeModel", "got", "[I", true)
  | 27 => ("MonsoonTradeModel", "gain", "I", false)
  | 28 => ("MonsoonTradeModel", "spent", "I", false)
  | 29 => ("MonsoonTradeModel", "men", "I", false)
  | 30 => ("MonsoonTradeModel", "weight", "[J", true)
  | 31 => ("MonsoonTradeModel", "tape", "[B", true)
  | 32 => ("MonsoonTradeModel", "taped", "I", false)
  | 33 => ("MonsoonTradeModel", "texts", "I", false)
  | 34 => ("MonsoonTradeModel", "rule", "I", false)
  | 35 => ("MonsoonTradeModel", "acts", "[I", true)
  | 36 => ("MonsoonTradeModel", "act", "[I", true)
  | 37 => ("MonsoonTradeModel", "number", "[I", true)
  | 38 => ("MonsoonTradeModel", "letters", "[C", true)
  | 39 => ("MonsoonTradeModel", "begins", "[I", true)
  | 40 => ("MonsoonTradeModel", "sizes", "[I", true)
  | 41 => ("MonsoonTradeModel", "at", "I", false)
  | 42 => ("MonsoonTradeModel", "begin", "I", false)
  | 43 => ("MonsoonTradeModel", "token", "I", false)
  | 44 => ("MonsoonTradeModel", "tokenNumber", "I", false)
  | 45 => ("MonsoonTradeModel", "wait", "[I", true)
  | 46 => ("MonsoonTradeModel", "waits", "I", false)
  | 47 => ("MonsoonTradeModel", "heap", "[I", true)
  | 48 => ("MonsoonTradeModel", "knows", "[Z", true)
  | 49 => ("MonsoonTradeModel", "priceAt", "[I", true)
  | 50 => ("MonsoonTradeModel", "bestWorth", "I", false)
  | 51 => ("MonsoonTradeModel", "bestLegs", "I", false)
  | 52 => ("MonsoonTradeModel", "bestDay", "I", false)
  | 53 => ("MonsoonTradeModel", "bestCode", "I", false)
  | 54 => ("MonsoonTradeModel", "worth0", "I", false)
  | 55 => ("MonsoonTradeModel", "day0", "I", false)
  | 56 => ("MonsoonTradeModel", "sheetSort", "[I", true)
  | 57 => ("MonsoonTradeModel", "sheetSize", "[I", true)
  | _ => ("MonsoonTradeModel", "cells", "[I", true)
def tyX12 : Nat → FieldType := fun k => match k with
  | 0 => .int
  | 1 => .int
  | 2 => .array .int
  | 3 => .array .int
  | 4 => .array .int
  | 5 => .array .int
  | 6 => .array .int
  | 7 => .array .int
  | 8 => .int
  | 9 => .array .int
  | 10 => .array .int
  | 11 => .array .int
  | 12 => .array .int
  | 13 => .array .int
  | 14 => .array .int
  | 15 => .array .boolean
  | 16 => .array .int
  | 17 => .array .int
  | 18 => .array .int
  | 19 => .int
  | 20 => .array .int
  | 21 => .array .int
  | 22 => .array .int
  | 23 => .array .int
  | 24 => .array .int
  | 25 => .array .boolean
  | 26 => .array .int
  | 27 => .int
  | 28 => .int
  | 29 => .int
  | 30 => .array .long
  | 31 => .array .byte
  | 32 => .int
  | 33 => .int
  | 34 => .int
  | 35 => .array .int
  | 36 => .array .int
  | 37 => .array .int
  | 38 => .array .char
  | 39 => .array .int
  | 40 => .array .int
  | 41 => .int
  | 42 => .int
  | 43 => .int
  | 44 => .int
  | 45 => .array .int
  | 46 => .int
  | 47 => .array .int
  | 48 => .array .boolean
  | 49 => .array .int
  | 50 => .int
  | 51 => .int
  | 52 => .int
  | 53 => .int
  | 54 => .int
  | 55 => .int
  | 56 => .array .int
  | 57 => .array .int
  | _ => .array .int
abbrev wsX120 : List Cond := u_ws RX12 TX12 59
theorem nmX12 : ∀ a, a < 59 → ∀ b, b < 59 → a ≠ b → (TX12 a).2.1 ≠ (TX12 b).2.1 := by decide +kernel
theorem tyX12_ok : ∀ k, k < 59 → parseFieldDescriptor (TX12 k).2.2.1 = some (tyX12 k) := by decide +kernel
abbrev cX12_isIn : ByteArray := prog_14_method_1_code
def yX12_isIn : MethodName := ⟨RX12, "isIn", "(JJJ)Z"⟩
abbrev cX12_isPort : ByteArray := prog_14_method_2_code
def yX12_isPort : MethodName := ⟨RX12, "isPort", "(I)Z"⟩
abbrev cX12_isDhow : ByteArray := prog_14_method_3_code
def yX12_isDhow : MethodName := ⟨RX12, "isDhow", "(I)Z"⟩
abbrev cX12_isGood : ByteArray := prog_14_method_4_code
def yX12_isGood : MethodName := ⟨RX12, "isGood", "(I)Z"⟩
abbrev cX12_priceOf : ByteArray := prog_14_method_5_code
def yX12_priceOf : MethodName := ⟨RX12, "priceOf", "(II)I"⟩
abbrev cX12_port : ByteArray := prog_14_method_6_code
def yX12_port : MethodName := ⟨RX12, "port", "(II)I"⟩
abbrev cX12_wants : ByteArray := prog_14_method_7_code
def yX12_wants : MethodName := ⟨RX12, "wants", "(IIII)I"⟩
abbrev cX12_price : ByteArray := prog_14_method_8_code
def yX12_price : MethodName := ⟨RX12, "price", "(II)I"⟩
abbrev cX12_wind : ByteArray := prog_14_method_9_code
def yX12_wind : MethodName := ⟨RX12, "wind", "(II)I"⟩
abbrev cX12_winds : ByteArray := prog_14_method_10_code
def yX12_winds : MethodName := ⟨RX12, "winds", "(IIII)I"⟩
abbrev cX12_wayOf : ByteArray := prog_14_method_11_code
def yX12_wayOf : MethodName := ⟨RX12, "wayOf", "(III)I"⟩
abbrev cX12_way : ByteArray := prog_14_method_12_code
def yX12_way : MethodName := ⟨RX12, "way", "(III)I"⟩
abbrev cX12_know : ByteArray := prog_14_method_13_code
def yX12_know : MethodName := ⟨RX12, "know", "(I)V"⟩
abbrev cX12_hear : ByteArray := prog_14_method_14_code
def yX12_hear : MethodName := ⟨RX12, "hear", "(II)V"⟩
abbrev cX12_talk : ByteArray := prog_14_method_15_code
def yX12_talk : MethodName := ⟨RX12, "talk", "(I)V"⟩
abbrev cX12_all : ByteArray := prog_14_method_16_code
def yX12_all : MethodName := ⟨RX12, "all", "(I)I"⟩
abbrev cX12_isThere : ByteArray := prog_14_method_17_code
def yX12_isThere : MethodName := ⟨RX12, "isThere", "(I)Z"⟩
abbrev cX12_dhow : ByteArray := prog_14_method_18_code
def yX12_dhow : MethodName := ⟨RX12, "dhow", "(III)I"⟩
abbrev cX12_told : ByteArray := prog_14_method_19_code
def yX12_told : MethodName := ⟨RX12, "told", "(II)I"⟩
abbrev cX12_good : ByteArray := prog_14_method_20_code
def yX12_good : MethodName := ⟨RX12, "good", "(II)I"⟩
abbrev cX12_sell : ByteArray := prog_14_method_21_code
def yX12_sell : MethodName := ⟨RX12, "sell", "(III)I"⟩
abbrev cX12_buy : ByteArray := prog_14_method_22_code
def yX12_buy : MethodName := ⟨RX12, "buy", "(III)I"⟩
abbrev cX12_sail : ByteArray := prog_14_method_23_code
def yX12_sail : MethodName := ⟨RX12, "sail", "(II)I"⟩
abbrev cX12_days : ByteArray := prog_14_method_24_code
def yX12_days : MethodName := ⟨RX12, "days", "(I)I"⟩
abbrev cX12_lose : ByteArray := prog_14_method_25_code
def yX12_lose : MethodName := ⟨RX12, "lose", "(I)I"⟩
abbrev cX12_heard : ByteArray := prog_14_method_26_code
def yX12_heard : MethodName := ⟨RX12, "heard", "(IIII)I"⟩
abbrev cX12_venture : ByteArray := prog_14_method_27_code
def yX12_venture : MethodName := ⟨RX12, "venture", "(IIII)I"⟩
abbrev cX12_isVenture : ByteArray := prog_14_method_28_code
def yX12_isVenture : MethodName := ⟨RX12, "isVenture", "(I)Z"⟩
abbrev cX12_ventureTold : ByteArray := prog_14_method_29_code
def yX12_ventureTold : MethodName := ⟨RX12, "ventureTold", "(II)I"⟩
abbrev cX12_on : ByteArray := prog_14_method_30_code
def yX12_on : MethodName := ⟨RX12, "on", "(II)I"⟩
abbrev cX12_begin : ByteArray := prog_14_method_31_code
def yX12_begin : MethodName := ⟨RX12, "begin", "(I)I"⟩
abbrev cX12_held : ByteArray := prog_14_method_32_code
def yX12_held : MethodName := ⟨RX12, "held", "(JI)I"⟩
abbrev cX12_takesPart : ByteArray := prog_14_method_33_code
def yX12_takesPart : MethodName := ⟨RX12, "takesPart", "(II)Z"⟩
abbrev cX12_pay : ByteArray := prog_14_method_34_code
def yX12_pay : MethodName := ⟨RX12, "pay", "(III)V"⟩
abbrev cX12_payBottoms : ByteArray := prog_14_method_35_code
def yX12_payBottoms : MethodName := ⟨RX12, "payBottoms", "(I)V"⟩
abbrev cX12_weigh : ByteArray := prog_14_method_36_code
def yX12_weigh : MethodName := ⟨RX12, "weigh", "(I)J"⟩
abbrev cX12_part : ByteArray := prog_14_method_37_code
def yX12_part : MethodName := ⟨RX12, "part", "(IJJ)V"⟩
abbrev cX12_end : ByteArray := prog_14_method_38_code
def yX12_end : MethodName := ⟨RX12, "end", "(I)I"⟩
abbrev cX12_init : ByteArray := prog_14_method_39_code
def yX12_init : MethodName := ⟨RX12, "<init>", "()V"⟩
abbrev cX12_add : ByteArray := prog_14_method_40_code
def yX12_add : MethodName := ⟨RX12, "add", "(III)V"⟩
abbrev cX12_isLetter : ByteArray := prog_14_method_41_code
def yX12_isLetter : MethodName := ⟨RX12, "isLetter", "(I)Z"⟩
abbrev cX12_isDigit : ByteArray := prog_14_method_42_code
def yX12_isDigit : MethodName := ⟨RX12, "isDigit", "(I)Z"⟩
abbrev cX12_letter : ByteArray := prog_14_method_43_code
def yX12_letter : MethodName := ⟨RX12, "letter", "(I)I"⟩
abbrev cX12_wordAt : ByteArray := prog_14_method_44_code
def yX12_wordAt : MethodName := ⟨RX12, "wordAt", "(II)I"⟩
abbrev cX12_isSign : ByteArray := prog_14_method_45_code
def yX12_isSign : MethodName := ⟨RX12, "isSign", "(I)Z"⟩
abbrev cX12_next : ByteArray := prog_14_method_46_code
def yX12_next : MethodName := ⟨RX12, "next", "()V"⟩
abbrev cX12_rankOf : ByteArray := prog_14_method_47_code
def yX12_rankOf : MethodName := ⟨RX12, "rankOf", "(I)I"⟩
abbrev cX12_settle : ByteArray := prog_14_method_48_code
def yX12_settle : MethodName := ⟨RX12, "settle", "(II)V"⟩
abbrev cX12_openMany : ByteArray := prog_14_method_49_code
def yX12_openMany : MethodName := ⟨RX12, "openMany", "()I"⟩
abbrev cX12_waitsFor : ByteArray := prog_14_method_50_code
def yX12_waitsFor : MethodName := ⟨RX12, "waitsFor", "(I)Z"⟩
abbrev cX12_hasCompared : ByteArray := prog_14_method_51_code
def yX12_hasCompared : MethodName := ⟨RX12, "hasCompared", "()Z"⟩
abbrev cX12_isRead : ByteArray := prog_14_method_52_code
def yX12_isRead : MethodName := ⟨RX12, "isRead", "(I)Z"⟩
abbrev cX12_isText : ByteArray := prog_14_method_53_code
def yX12_isText : MethodName := ⟨RX12, "isText", "()Z"⟩
abbrev cX12_feed : ByteArray := prog_14_method_54_code
def yX12_feed : MethodName := ⟨RX12, "feed", "(IJ)I"⟩
abbrev cX12_text : ByteArray := prog_14_method_55_code
def yX12_text : MethodName := ⟨RX12, "text", "()I"⟩
abbrev cX12_force : ByteArray := prog_14_method_56_code
def yX12_force : MethodName := ⟨RX12, "force", "(I)I"⟩
abbrev cX12_joined : ByteArray := prog_14_method_57_code
def yX12_joined : MethodName := ⟨RX12, "joined", "(III)I"⟩
abbrev cX12_value : ByteArray := prog_14_method_58_code
def yX12_value : MethodName := ⟨RX12, "value", "(IIIIIII)I"⟩
abbrev cX12_says : ByteArray := prog_14_method_59_code
def yX12_says : MethodName := ⟨RX12, "says", "(IIIIIII)J"⟩
abbrev cX12_takeWords : ByteArray := prog_14_method_60_code
def yX12_takeWords : MethodName := ⟨RX12, "takeWords", "(I)V"⟩
abbrev cX12_goes : ByteArray := prog_14_method_61_code
def yX12_goes : MethodName := ⟨RX12, "goes", "(IIII)Z"⟩
abbrev cX12_finds : ByteArray := prog_14_method_62_code
def yX12_finds : MethodName := ⟨RX12, "finds", "(III)Z"⟩
abbrev cX12_mayOrder : ByteArray := prog_14_method_63_code
def yX12_mayOrder : MethodName := ⟨RX12, "mayOrder", "(III)Z"⟩
abbrev cX12_order : ByteArray := prog_14_method_64_code
def yX12_order : MethodName := ⟨RX12, "order", "(IIII)J"⟩
abbrev cX12_leg : ByteArray := prog_14_method_65_code
def yX12_leg : MethodName := ⟨RX12, "leg", "(IIII)I"⟩
abbrev cX12_count : ByteArray := prog_14_method_66_code
def yX12_count : MethodName := ⟨RX12, "count", "(I)I"⟩
abbrev cX12_sheet : ByteArray := prog_14_method_67_code
def yX12_sheet : MethodName := ⟨RX12, "sheet", "(III)I"⟩
abbrev cX12_cell : ByteArray := prog_14_method_68_code
def yX12_cell : MethodName := ⟨RX12, "cell", "(III)I"⟩
abbrev cX12_taken : ByteArray := prog_14_method_69_code
def yX12_taken : MethodName := ⟨RX12, "taken", "(II)I"⟩
def RJx145de : String := "java/io/Serializable"
def TJx145de : u_T := fun k => match k with
  | _ => ("", "", "", false)
def tyJx145de : Nat → FieldType := fun k => match k with
  | _ => .int
abbrev wsJx145de0 : List Cond := u_ws RJx145de TJx145de 0
theorem nmJx145de : ∀ a, a < 0 → ∀ b, b < 0 → a ≠ b → (TJx145de a).2.1 ≠ (TJx145de b).2.1 := by decide +kernel
theorem tyJx145de_ok : ∀ k, k < 0 → parseFieldDescriptor (TJx145de k).2.2.1 = some (tyJx145de k) := by decide +kernel
def RJx9f9b0 : String := "java/lang/CharSequence"
def TJx9f9b0 : u_T := fun k => match k with
  | _ => ("", "", "", false)
def tyJx9f9b0 : Nat → FieldType := fun k => match k with
  | _ => .int
abbrev wsJx9f9b00 : List Cond := u_ws RJx9f9b0 TJx9f9b0 0
theorem nmJx9f9b0 : ∀ a, a < 0 → ∀ b, b < 0 → a ≠ b → (TJx9f9b0 a).2.1 ≠ (TJx9f9b0 b).2.1 := by decide +kernel
theorem tyJx9f9b0_ok : ∀ k, k < 0 → parseFieldDescriptor (TJx9f9b0 k).2.2.1 = some (tyJx9f9b0 k) := by decide +kernel
def RJ11 : String := "java/lang/Character"
def TJ11 : u_T := fun k => match k with
  | _ => ("", "", "", false)
def tyJ11 : Nat → FieldType := fun k => match k with
  | _ => .int
abbrev wsJ110 : List Cond := u_ws RJ11 TJ11 0
theorem nmJ11 : ∀ a, a < 0 → ∀ b, b < 0 → a ≠ b → (TJ11 a).2.1 ≠ (TJ11 b).2.1 := by decide +kernel
theorem tyJ11_ok : ∀ k, k < 0 → parseFieldDescriptor (TJ11 k).2.2.1 = some (tyJ11 k) := by decide +kernel
abbrev cJ11_isValidCodePoint_9a6ad : ByteArray := prog_15_method_11_code
def yJ11_isValidCodePoint_9a6ad : MethodName := ⟨RJ11, "isValidCodePoint", "(I)Z"⟩
abbrev cJ11_highSurrogate_5068e : ByteArray := prog_15_method_28_code
def yJ11_highSurrogate_5068e : MethodName := ⟨RJ11, "highSurrogate", "(I)C"⟩
abbrev cJ11_lowSurrogate_5068e : ByteArray := prog_15_method_29_code
def yJ11_lowSurrogate_5068e : MethodName := ⟨RJ11, "lowSurrogate", "(I)C"⟩
def RJx8e188 : String := "java/lang/Cloneable"
def TJx8e188 : u_T := fun k => match k with
  | _ => ("", "", "", false)
def tyJx8e188 : Nat → FieldType := fun k => match k with
  | _ => .int
abbrev wsJx8e1880 : List Cond := u_ws RJx8e188 TJx8e188 0
theorem nmJx8e188 : ∀ a, a < 0 → ∀ b, b < 0 → a ≠ b → (TJx8e188 a).2.1 ≠ (TJx8e188 b).2.1 := by decide +kernel
theorem tyJx8e188_ok : ∀ k, k < 0 → parseFieldDescriptor (TJx8e188 k).2.2.1 = some (tyJx8e188 k) := by decide +kernel
def RJxb160c : String := "java/lang/Comparable"
def TJxb160c : u_T := fun k => match k with
  | _ => ("", "", "", false)
def tyJxb160c : Nat → FieldType := fun k => match k with
  | _ => .int
abbrev wsJxb160c0 : List Cond := u_ws RJxb160c TJxb160c 0
theorem nmJxb160c : ∀ a, a < 0 → ∀ b, b < 0 → a ≠ b → (TJxb160c a).2.1 ≠ (TJxb160c b).2.1 := by decide +kernel
theorem tyJxb160c_ok : ∀ k, k < 0 → parseFieldDescriptor (TJxb160c k).2.2.1 = some (tyJxb160c k) := by decide +kernel
def RJ6 : String := "java/lang/Integer"
def TJ6 : u_T := fun k => match k with
  | _ => ("", "", "", false)
def tyJ6 : Nat → FieldType := fun k => match k with
  | _ => .int
abbrev wsJ60 : List Cond := u_ws RJ6 TJ6 0
theorem nmJ6 : ∀ a, a < 0 → ∀ b, b < 0 → a ≠ b → (TJ6 a).2.1 ≠ (TJ6 b).2.1 := by decide +kernel
theorem tyJ6_ok : ∀ k, k < 0 → parseFieldDescriptor (TJ6 k).2.2.1 = some (tyJ6 k) := by decide +kernel
abbrev cJ6_compare_7cf53 : ByteArray := prog_17_method_40_code
def yJ6_compare_7cf53 : MethodName := ⟨RJ6, "compare", "(II)I"⟩
def RJ9 : String := "java/lang/Math"
def TJ9 : u_T := fun k => match k with
  | _ => ("", "", "", false)
def tyJ9 : Nat → FieldType := fun k => match k with
  | _ => .int
abbrev wsJ90 : List Cond := u_ws RJ9 TJ9 0
theorem nmJ9 : ∀ a, a < 0 → ∀ b, b < 0 → a ≠ b → (TJ9 a).2.1 ≠ (TJ9 b).2.1 := by decide +kernel
theorem tyJ9_ok : ∀ k, k < 0 → parseFieldDescriptor (TJ9 k).2.2.1 = some (tyJ9 k) := by decide +kernel
abbrev cJ9_abs_0f7a4 : ByteArray := prog_18_method_59_code
def yJ9_abs_0f7a4 : MethodName := ⟨RJ9, "abs", "(I)I"⟩
abbrev cJ9_max_7cf53 : ByteArray := prog_18_method_65_code
def yJ9_max_7cf53 : MethodName := ⟨RJ9, "max", "(II)I"⟩
abbrev cJ9_min_7cf53 : ByteArray := prog_18_method_69_code
def yJ9_min_7cf53 : MethodName := ⟨RJ9, "min", "(II)I"⟩
def RJ0 : String := "java/lang/String"
def TJ0 : u_T := fun k => match k with
  | _ => ("", "", "", false)
def tyJ0 : Nat → FieldType := fun k => match k with
  | _ => .int
abbrev wsJ00 : List Cond := u_ws RJ0 TJ0 0
theorem nmJ0 : ∀ a, a < 0 → ∀ b, b < 0 → a ≠ b → (TJ0 a).2.1 ≠ (TJ0 b).2.1 := by decide +kernel
theorem tyJ0_ok : ∀ k, k < 0 → parseFieldDescriptor (TJ0 k).2.2.1 = some (tyJ0 k) := by decide +kernel
abbrev cJ0_length_8abf5 : ByteArray := prog_19_method_54_code
def yJ0_length_8abf5 : MethodName := ⟨RJ0, "length", "()I"⟩
abbrev cJ0_charAt_5068e : ByteArray := prog_19_method_56_code
def yJ0_charAt_5068e : MethodName := ⟨RJ0, "charAt", "(I)C"⟩
abbrev cJ0_indexOf_0f7a4 : ByteArray := prog_19_method_79_code
def yJ0_indexOf_0f7a4 : MethodName := ⟨RJ0, "indexOf", "(I)I"⟩
abbrev cJ0_indexOf_7cf53 : ByteArray := prog_19_method_80_code
def yJ0_indexOf_7cf53 : MethodName := ⟨RJ0, "indexOf", "(II)I"⟩
abbrev cJ0_coder_7d493 : ByteArray := prog_19_method_152_code
def yJ0_coder_7d493 : MethodName := ⟨RJ0, "coder", "()B"⟩
abbrev cJ0_isLatin1_aae02 : ByteArray := prog_19_method_154_code
def yJ0_isLatin1_aae02 : MethodName := ⟨RJ0, "isLatin1", "()Z"⟩
abbrev cJ0_checkIndex_df160 : ByteArray := prog_19_method_155_code
def yJ0_checkIndex_df160 : MethodName := ⟨RJ0, "checkIndex", "(II)V"⟩
abbrev cJ0_checkBoundsBeginEnd_23922 : ByteArray := prog_19_method_158_code
def yJ0_checkBoundsBeginEnd_23922 : MethodName := ⟨RJ0, "checkBoundsBeginEnd", "(III)V"⟩
def RJ1 : String := "java/lang/StringLatin1"
def TJ1 : u_T := fun k => match k with
  | _ => ("", "", "", false)
def tyJ1 : Nat → FieldType := fun k => match k with
  | _ => .int
abbrev wsJ10 : List Cond := u_ws RJ1 TJ1 0
theorem nmJ1 : ∀ a, a < 0 → ∀ b, b < 0 → a ≠ b → (TJ1 a).2.1 ≠ (TJ1 b).2.1 := by decide +kernel
theorem tyJ1_ok : ∀ k, k < 0 → parseFieldDescriptor (TJ1 k).2.2.1 = some (tyJ1 k) := by decide +kernel
abbrev cJ1_charAt_3b067 : ByteArray := prog_20_method_2_code
def yJ1_charAt_3b067 : MethodName := ⟨RJ1, "charAt", "([BI)C"⟩
abbrev cJ1_canEncode_9a6ad : ByteArray := prog_20_method_4_code
def yJ1_canEncode_9a6ad : MethodName := ⟨RJ1, "canEncode", "(I)Z"⟩
abbrev cJ1_indexOf_4cfef : ByteArray := prog_20_method_22_code
def yJ1_indexOf_4cfef : MethodName := ⟨RJ1, "indexOf", "([BIII)I"⟩
abbrev cJ1_indexOfChar_4cfef : ByteArray := prog_20_method_23_code
def yJ1_indexOfChar_4cfef : MethodName := ⟨RJ1, "indexOfChar", "([BIII)I"⟩
def RJ2 : String := "java/lang/StringUTF16"
def TJ2 : u_T := fun k => match k with
  | _ => ("", "", "", false)
def tyJ2 : Nat → FieldType := fun k => match k with
  | _ => .int
abbrev wsJ20 : List Cond := u_ws RJ2 TJ2 0
theorem nmJ2 : ∀ a, a < 0 → ∀ b, b < 0 → a ≠ b → (TJ2 a).2.1 ≠ (TJ2 b).2.1 := by decide +kernel
theorem tyJ2_ok : ∀ k, k < 0 → parseFieldDescriptor (TJ2 k).2.2.1 = some (tyJ2 k) := by decide +kernel
abbrev cJ2_getChar_3b067 : ByteArray := prog_21_method_5_code
def yJ2_getChar_3b067 : MethodName := ⟨RJ2, "getChar", "([BI)C"⟩
abbrev cJ2_length_9d52b : ByteArray := prog_21_method_6_code
def yJ2_length_9d52b : MethodName := ⟨RJ2, "length", "([B)I"⟩
abbrev cJ2_indexOf_4cfef : ByteArray := prog_21_method_40_code
def yJ2_indexOf_4cfef : MethodName := ⟨RJ2, "indexOf", "([BIII)I"⟩
abbrev cJ2_indexOfChar_4cfef : ByteArray := prog_21_method_47_code
def yJ2_indexOfChar_4cfef : MethodName := ⟨RJ2, "indexOfChar", "([BIII)I"⟩
abbrev cJ2_indexOfCharUnsafe_4cfef : ByteArray := prog_21_method_48_code
def yJ2_indexOfCharUnsafe_4cfef : MethodName := ⟨RJ2, "indexOfCharUnsafe", "([BIII)I"⟩
abbrev cJ2_indexOfSupplementary_4cfef : ByteArray := prog_21_method_49_code
def yJ2_indexOfSupplementary_4cfef : MethodName := ⟨RJ2, "indexOfSupplementary", "([BIII)I"⟩
abbrev cJ2_charAt_3b067 : ByteArray := prog_21_method_83_code
def yJ2_charAt_3b067 : MethodName := ⟨RJ2, "charAt", "([BI)C"⟩
abbrev cJ2_checkIndex_2214a : ByteArray := prog_21_method_91_code
def yJ2_checkIndex_2214a : MethodName := ⟨RJ2, "checkIndex", "(I[B)V"⟩
abbrev cJ2_checkBoundsBeginEnd_d044e : ByteArray := prog_21_method_93_code
def yJ2_checkBoundsBeginEnd_d044e : MethodName := ⟨RJ2, "checkBoundsBeginEnd", "(II[B)V"⟩
def RJ10 : String := "java/lang/System"
def TJ10 : u_T := fun k => match k with
  | _ => ("", "", "", false)
def tyJ10 : Nat → FieldType := fun k => match k with
  | _ => .int
abbrev wsJ100 : List Cond := u_ws RJ10 TJ10 0
theorem nmJ10 : ∀ a, a < 0 → ∀ b, b < 0 → a ≠ b → (TJ10 a).2.1 ≠ (TJ10 b).2.1 := by decide +kernel
theorem tyJ10_ok : ∀ k, k < 0 → parseFieldDescriptor (TJ10 k).2.2.1 = some (tyJ10 k) := by decide +kernel
def RJxfd54e : String := "java/lang/constant/Constable"
def TJxfd54e : u_T := fun k => match k with
  | _ => ("", "", "", false)
def tyJxfd54e : Nat → FieldType := fun k => match k with
  | _ => .int
abbrev wsJxfd54e0 : List Cond := u_ws RJxfd54e TJxfd54e 0
theorem nmJxfd54e : ∀ a, a < 0 → ∀ b, b < 0 → a ≠ b → (TJxfd54e a).2.1 ≠ (TJxfd54e b).2.1 := by decide +kernel
theorem tyJxfd54e_ok : ∀ k, k < 0 → parseFieldDescriptor (TJxfd54e k).2.2.1 = some (tyJxfd54e k) := by decide +kernel
def RJx3cf43 : String := "java/lang/constant/ConstantDesc"
def TJx3cf43 : u_T := fun k => match k with
  | _ => ("", "", "", false)
def tyJx3cf43 : Nat → FieldType := fun k => match k with
  | _ => .int
abbrev wsJx3cf430 : List Cond := u_ws RJx3cf43 TJx3cf43 0
theorem nmJx3cf43 : ∀ a, a < 0 → ∀ b, b < 0 → a ≠ b → (TJx3cf43 a).2.1 ≠ (TJx3cf43 b).2.1 := by decide +kernel
theorem tyJx3cf43_ok : ∀ k, k < 0 → parseFieldDescriptor (TJx3cf43 k).2.2.1 = some (tyJx3cf43 k) := by decide +kernel
def RJ7 : String := "java/util/Arrays"
def TJ7 : u_T := fun k => match k with
  | _ => ("", "", "", false)
def tyJ7 : Nat → FieldType := fun k => match k with
  | _ => .int
abbrev wsJ70 : List Cond := u_ws RJ7 TJ7 0
theorem nmJ7 : ∀ a, a < 0 → ∀ b, b < 0 → a ≠ b → (TJ7 a).2.1 ≠ (TJ7 b).2.1 := by decide +kernel
theorem tyJ7_ok : ∀ k, k < 0 → parseFieldDescriptor (TJ7 k).2.2.1 = some (tyJ7 k) := by decide +kernel
abbrev cJ7_fill_53178 : ByteArray := prog_23_method_103_code
def yJ7_fill_53178 : MethodName := ⟨RJ7, "fill", "([II)V"⟩
abbrev cJ7_copyOf_59c91 : ByteArray := prog_23_method_123_code
def yJ7_copyOf_59c91 : MethodName := ⟨RJ7, "copyOf", "([II)[I"⟩
def RJ3 : String := "jdk/internal/util/Preconditions"
def TJ3 : u_T := fun k => match k with
  | _ => ("", "", "", false)
def tyJ3 : Nat → FieldType := fun k => match k with
  | _ => .int
abbrev wsJ30 : List Cond := u_ws RJ3 TJ3 0
theorem nmJ3 : ∀ a, a < 0 → ∀ b, b < 0 → a ≠ b → (TJ3 a).2.1 ≠ (TJ3 b).2.1 := by decide +kernel
theorem tyJ3_ok : ∀ k, k < 0 → parseFieldDescriptor (TJ3 k).2.2.1 = some (tyJ3 k) := by decide +kernel
abbrev cJ3_checkIndex_8e157 : ByteArray := prog_24_method_11_code
def yJ3_checkIndex_8e157 : MethodName := ⟨RJ3, "checkIndex", "(IILjava/util/function/BiFunction;)I"⟩
abbrev cJ3_checkFromToIndex_8c36e : ByteArray := prog_24_method_12_code
def yJ3_checkFromToIndex_8c36e : MethodName := ⟨RJ3, "checkFromToIndex", "(IIILjava/util/function/BiFunction;)I"⟩
def RL : String := "MonsoonTradeLaw"
abbrev cL_law : ByteArray := code
def yL_law : MethodName := ⟨RL, "law", "([I)Z"⟩
abbrev classes : List vw_C := [(RX0, TX0, 9), (RX1, TX1, 2), (RX2, TX2, 12), (RX3, TX3, 6), (RX4, TX4, 6), (RX5, TX5, 3), (RX6, TX6, 3), (RX7, TX7, 3), (RX8, TX8, 2), (RX9, TX9, 6), (RX10, TX10, 8), (RX11, TX11, 14), (RX12, TX12, 59)]
end
section
/-! Tables of the abstract machine, by wip/whole/gen.py: an instruction with what its operand means. -/
abbrev RI : Type := Nat × Instr × Nat × Nat × Nat × Int32 × Int64 × List (Int32 × Nat) × Nat
/-- a method: name, bytes, size, locals, answer, static, words of its code, kind, choice, class -/
abbrev MR : Type := MethodName × ByteArray × Nat × Nat × Option FieldType × Bool × Nat × Nat × Nat × Nat × Nat
abbrev m_Dhow_aboard : Nat := 0
abbrev m_Dhow_inPort : Nat := 1
abbrev m_Dhow_atSea : Nat := 2
abbrev m_Dhow_goDown : Nat := 3
abbrev m_Dhow_onVoyage : Nat := 4
abbrev m_Dhow_pay : Nat := 5
abbrev m_News_forget : Nat := 6
abbrev m_News_note : Nat := 7
abbrev m_News_hear : Nat := 8
abbrev m_News_knows : Nat := 9
abbrev m_News_priceOf : Nat := 10
abbrev m_Planner_learn : Nat := 11
abbrev m_Planner_find : Nat := 12
abbrev m_Planner_most : Nat := 13
abbrev m_Planner_arrival : Nat := 14
abbrev m_Planner_mostByOneLeg : Nat := 15
abbrev m_Planner_coinsAfter : Nat := 16
abbrev m_Planner_trace : Nat := 17
abbrev m_Planner_choose : Nat := 18
abbrev m_Port_priceOf : Nat := 19
abbrev m_Reader_read : Nat := 20
abbrev m_Reader_readPart : Nat := 21
abbrev m_Reader_require : Nat := 22
abbrev m_Reader_fail : Nat := 23
abbrev m_Reader_readOr : Nat := 24
abbrev m_Reader_readAnd : Nat := 25
abbrev m_Reader_readNot : Nat := 26
abbrev m_Reader_readComparison : Nat := 27
abbrev m_Reader_readSum : Nat := 28
abbrev m_Reader_readTerm : Nat := 29
abbrev m_Reader_readOne : Nat := 30
abbrev m_Reader_emit : Nat := 31
abbrev m_Reader_readNegated : Nat := 32
abbrev m_Reader_enter : Nat := 33
abbrev m_Reader_readBracket : Nat := 34
abbrev m_Reckoner_setVoyage : Nat := 35
abbrev m_Reckoner_setOwn : Nat := 36
abbrev m_Reckoner_reckon : Nat := 37
abbrev m_Reckoner_step : Nat := 38
abbrev m_Reckoner_push : Nat := 39
abbrev m_Reckoner_pop : Nat := 40
abbrev m_Reckoner_join : Nat := 41
abbrev m_Sea_found : Nat := 42
abbrev m_Sea_has : Nat := 43
abbrev m_Sea_crossing : Nat := 44
abbrev m_Sea_tellItself : Nat := 45
abbrev m_Sheet_missing : Nat := 46
abbrev m_Sheet_holds : Nat := 47
abbrev m_Sheet_become : Nat := 48
abbrev m_Sheet_put : Nat := 49
abbrev m_Text_keep : Nat := 50
abbrev m_Text_firstOf : Nat := 51
abbrev m_Tokens_addAll : Nat := 52
abbrev m_Tokens_add : Nat := 53
abbrev m_Tokens_first : Nat := 54
abbrev m_Tokens_next : Nat := 55
abbrev m_Tokens_isBlank : Nat := 56
abbrev m_Tokens_isLetter : Nat := 57
abbrev m_Tokens_takeWord : Nat := 58
abbrev m_Tokens_isDigit : Nat := 59
abbrev m_Tokens_takeNumber : Nat := 60
abbrev m_Tokens_takeSign : Nat := 61
abbrev m_Tokens_clear : Nat := 62
abbrev m_Venture_isOn : Nat := 63
abbrev m_Venture_goDown : Nat := 64
abbrev m_Venture_found : Nat := 65
abbrev m_Venture_brings : Nat := 66
abbrev m_Venture_waits : Nat := 67
abbrev m_Venture_isOfKind : Nat := 68
abbrev m_C_text : Nat := 69
abbrev m_C_within : Nat := 70
abbrev m_C_port : Nat := 71
abbrev m_C_wants : Nat := 72
abbrev m_C_isGood : Nat := 73
abbrev m_C_price : Nat := 74
abbrev m_C_wind : Nat := 75
abbrev m_C_winds : Nat := 76
abbrev m_C_isSheet : Nat := 77
abbrev m_C_clamp : Nat := 78
abbrev m_C_way : Nat := 79
abbrev m_C_monthOf : Nat := 80
abbrev m_C_dhow : Nat := 81
abbrev m_C_told : Nat := 82
abbrev m_C_isDhow : Nat := 83
abbrev m_C_good : Nat := 84
abbrev m_C_sell : Nat := 85
abbrev m_C_buy : Nat := 86
abbrev m_C_sail : Nat := 87
abbrev m_C_exchangeNews : Nat := 88
abbrev m_C_days : Nat := 89
abbrev m_C_bringIn : Nat := 90
abbrev m_C_lose : Nat := 91
abbrev m_C_heard : Nat := 92
abbrev m_C_venture : Nat := 93
abbrev m_C_ventureTold : Nat := 94
abbrev m_C_isVenture : Nat := 95
abbrev m_C_on : Nat := 96
abbrev m_C_begin : Nat := 97
abbrev m_C_end : Nat := 98
abbrev m_C_menOf : Nat := 99
abbrev m_C_payBottoms : Nat := 100
abbrev m_C_weighAll : Nat := 101
abbrev m_C_weigh : Nat := 102
abbrev m_C_partWith : Nat := 103
abbrev m_C_feed : Nat := 104
abbrev m_C_force : Nat := 105
abbrev m_C_isText : Nat := 106
abbrev m_C_says : Nat := 107
abbrev m_C_order : Nat := 108
abbrev m_C_isPlan : Nat := 109
abbrev m_C_plan : Nat := 110
abbrev m_C_leg : Nat := 111
abbrev m_C_count : Nat := 112
abbrev m_C_lostDhows : Nat := 113
abbrev m_C_openVentures : Nat := 114
abbrev m_C_sheet : Nat := 115
abbrev m_C_cell : Nat := 116
abbrev m_C_taken : Nat := 117
abbrev m_M_port : Nat := 118
abbrev m_M_isIn : Nat := 119
abbrev m_M_wants : Nat := 120
abbrev m_M_isPort : Nat := 121
abbrev m_M_isGood : Nat := 122
abbrev m_M_priceOf : Nat := 123
abbrev m_M_price : Nat := 124
abbrev m_M_wind : Nat := 125
abbrev m_M_winds : Nat := 126
abbrev m_M_way : Nat := 127
abbrev m_M_wayOf : Nat := 128
abbrev m_M_dhow : Nat := 129
abbrev m_M_told : Nat := 130
abbrev m_M_isDhow : Nat := 131
abbrev m_M_all : Nat := 132
abbrev m_M_good : Nat := 133
abbrev m_M_sell : Nat := 134
abbrev m_M_isThere : Nat := 135
abbrev m_M_buy : Nat := 136
abbrev m_M_sail : Nat := 137
abbrev m_M_talk : Nat := 138
abbrev m_M_know : Nat := 139
abbrev m_M_hear : Nat := 140
abbrev m_M_days : Nat := 141
abbrev m_M_lose : Nat := 142
abbrev m_M_heard : Nat := 143
abbrev m_M_venture : Nat := 144
abbrev m_M_ventureTold : Nat := 145
abbrev m_M_isVenture : Nat := 146
abbrev m_M_on : Nat := 147
abbrev m_M_begin : Nat := 148
abbrev m_M_end : Nat := 149
abbrev m_M_value : Nat := 150
abbrev m_M_joined : Nat := 151
abbrev m_M_held : Nat := 152
abbrev m_M_payBottoms : Nat := 153
abbrev m_M_pay : Nat := 154
abbrev m_M_weigh : Nat := 155
abbrev m_M_takesPart : Nat := 156
abbrev m_M_part : Nat := 157
abbrev m_M_add : Nat := 158
abbrev m_M_feed : Nat := 159
abbrev m_M_text : Nat := 160
abbrev m_M_isText : Nat := 161
abbrev m_M_next : Nat := 162
abbrev m_M_letter : Nat := 163
abbrev m_M_isLetter : Nat := 164
abbrev m_M_wordAt : Nat := 165
abbrev m_M_isDigit : Nat := 166
abbrev m_M_isSign : Nat := 167
abbrev m_M_isRead : Nat := 168
abbrev m_M_openMany : Nat := 169
abbrev m_M_settle : Nat := 170
abbrev m_M_rankOf : Nat := 171
abbrev m_M_waitsFor : Nat := 172
abbrev m_M_hasCompared : Nat := 173
abbrev m_M_force : Nat := 174
abbrev m_M_says : Nat := 175
abbrev m_M_order : Nat := 176
abbrev m_M_mayOrder : Nat := 177
abbrev m_M_finds : Nat := 178
abbrev m_M_takeWords : Nat := 179
abbrev m_M_goes : Nat := 180
abbrev m_M_leg : Nat := 181
abbrev m_M_count : Nat := 182
abbrev m_M_sheet : Nat := 183
abbrev m_M_cell : Nat := 184
abbrev m_M_taken : Nat := 185
abbrev m_Arrays_fill : Nat := 186
abbrev m_String_length : Nat := 187
abbrev m_String_coder : Nat := 188
abbrev m_String_charAt : Nat := 189
abbrev m_String_isLatin1 : Nat := 190
abbrev m_StringLatin1_charAt : Nat := 191
abbrev m_String_checkIndex : Nat := 192
abbrev m_Preconditions_checkIndex : Nat := 193
abbrev m_String_indexOf : Nat := 194
abbrev m_String_indexOf2 : Nat := 195
abbrev m_StringLatin1_indexOf : Nat := 196
abbrev m_StringLatin1_canEncode : Nat := 197
abbrev m_StringLatin1_indexOfChar : Nat := 198
abbrev m_Arrays_copyOf : Nat := 199
abbrev m_Integer_compare : Nat := 200
abbrev m_law : Nat := 201
def mr_0 : MR := (⟨"MonsoonTrade$Dhow", "aboard", "()I"⟩, prog_2_method_5_code, 26, 3, (some .int), false, 793, 791, 792, 79, 0)
def mr_1 : MR := (⟨"MonsoonTrade$Dhow", "inPort", "()Z"⟩, prog_2_method_2_code, 22, 1, (some .boolean), false, 805, 803, 804, 79, 0)
def mr_2 : MR := (⟨"MonsoonTrade$Dhow", "atSea", "()Z"⟩, prog_2_method_3_code, 22, 1, (some .boolean), false, 843, 841, 842, 79, 0)
def mr_3 : MR := (⟨"MonsoonTrade$Dhow", "goDown", "()V"⟩, prog_2_method_7_code, 34, 1, none, false, 851, 849, 850, 79, 0)
def mr_4 : MR := (⟨"MonsoonTrade$Dhow", "onVoyage", "()Z"⟩, prog_2_method_4_code, 14, 1, (some .boolean), false, 880, 878, 879, 79, 0)
def mr_5 : MR := (⟨"MonsoonTrade$Dhow", "pay", "(I)I"⟩, prog_2_method_6_code, 22, 3, (some .int), false, 953, 951, 952, 79, 0)
def mr_6 : MR := (⟨"MonsoonTrade$News", "forget", "()V"⟩, prog_3_method_2_code, 9, 1, none, false, 122, 120, 121, 73, 1)
def mr_7 : MR := (⟨"MonsoonTrade$News", "note", "(IILMonsoonTrade$Port;)V"⟩, prog_3_method_5_code, 40, 5, none, false, 825, 823, 824, 73, 1)
def mr_8 : MR := (⟨"MonsoonTrade$News", "hear", "(LMonsoonTrade$News;)V"⟩, prog_3_method_6_code, 60, 3, none, false, 830, 828, 829, 73, 1)
def mr_9 : MR := (⟨"MonsoonTrade$News", "knows", "(I)Z"⟩, prog_3_method_3_code, 16, 2, (some .boolean), false, 868, 866, 867, 73, 1)
def mr_10 : MR := (⟨"MonsoonTrade$News", "priceOf", "(II)I"⟩, prog_3_method_4_code, 11, 3, (some .int), false, 872, 870, 871, 73, 1)
def mr_11 : MR := (⟨"MonsoonTrade$Planner", "learn", "(LMonsoonTrade$Dhow;II)V"⟩, prog_4_method_2_code, 120, 5, none, false, 1007, 1005, 1006, 78, 2)
def mr_12 : MR := (⟨"MonsoonTrade$Planner", "find", "(I)V"⟩, prog_4_method_3_code, 60, 4, none, false, 1014, 1012, 1013, 78, 2)
def mr_13 : MR := (⟨"MonsoonTrade$Planner", "most", "(IIII)I"⟩, prog_4_method_4_code, 77, 8, (some .int), false, 1018, 1017, 32, 78, 2)
def mr_14 : MR := (⟨"MonsoonTrade$Planner", "arrival", "(III)I"⟩, prog_4_method_8_code, 56, 5, (some .int), false, 1022, 1021, 33, 78, 2)
def mr_15 : MR := (⟨"MonsoonTrade$Planner", "mostByOneLeg", "(III)I"⟩, prog_4_method_5_code, 37, 6, (some .int), false, 1028, 1027, 34, 78, 2)
def mr_16 : MR := (⟨"MonsoonTrade$Planner", "coinsAfter", "(IIII)I"⟩, prog_4_method_9_code, 58, 6, (some .int), false, 1032, 1031, 35, 78, 2)
def mr_17 : MR := (⟨"MonsoonTrade$Planner", "trace", "()V"⟩, prog_4_method_6_code, 92, 4, none, false, 1038, 1036, 1037, 78, 2)
def mr_18 : MR := (⟨"MonsoonTrade$Planner", "choose", "(III)V"⟩, prog_4_method_7_code, 106, 7, none, false, 1042, 1041, 36, 78, 2)
def mr_19 : MR := (⟨"MonsoonTrade$Port", "priceOf", "(I)I"⟩, prog_5_method_2_code, 28, 2, (some .int), false, 728, 726, 727, 72, 3)
def mr_20 : MR := (⟨"MonsoonTrade$Reader", "read", "()I"⟩, prog_6_method_2_code, 65, 1, (some .int), false, 486, 484, 485, 76, 4)
def mr_21 : MR := (⟨"MonsoonTrade$Reader", "readPart", "(II)V"⟩, prog_6_method_3_code, 26, 3, none, false, 580, 579, 3, 76, 4)
def mr_22 : MR := (⟨"MonsoonTrade$Reader", "require", "(I)V"⟩, prog_6_method_14_code, 26, 2, none, false, 584, 583, 4, 76, 4)
def mr_23 : MR := (⟨"MonsoonTrade$Reader", "fail", "()V"⟩, prog_6_method_15_code, 28, 1, none, false, 589, 588, 5, 76, 4)
def mr_24 : MR := (⟨"MonsoonTrade$Reader", "readOr", "()V"⟩, prog_6_method_4_code, 51, 2, none, false, 593, 592, 6, 76, 4)
def mr_25 : MR := (⟨"MonsoonTrade$Reader", "readAnd", "()V"⟩, prog_6_method_5_code, 51, 2, none, false, 597, 596, 7, 76, 4)
def mr_26 : MR := (⟨"MonsoonTrade$Reader", "readNot", "()V"⟩, prog_6_method_6_code, 49, 1, none, false, 601, 600, 8, 76, 4)
def mr_27 : MR := (⟨"MonsoonTrade$Reader", "readComparison", "()V"⟩, prog_6_method_7_code, 42, 2, none, false, 605, 604, 9, 76, 4)
def mr_28 : MR := (⟨"MonsoonTrade$Reader", "readSum", "()V"⟩, prog_6_method_8_code, 69, 3, none, false, 609, 608, 10, 76, 4)
def mr_29 : MR := (⟨"MonsoonTrade$Reader", "readTerm", "()V"⟩, prog_6_method_9_code, 49, 2, none, false, 613, 612, 11, 76, 4)
def mr_30 : MR := (⟨"MonsoonTrade$Reader", "readOne", "()V"⟩, prog_6_method_10_code, 94, 2, none, false, 617, 616, 12, 76, 4)
def mr_31 : MR := (⟨"MonsoonTrade$Reader", "emit", "(I)V"⟩, prog_6_method_16_code, 31, 2, none, false, 621, 620, 13, 76, 4)
def mr_32 : MR := (⟨"MonsoonTrade$Reader", "readNegated", "()V"⟩, prog_6_method_11_code, 28, 1, none, false, 628, 627, 14, 76, 4)
def mr_33 : MR := (⟨"MonsoonTrade$Reader", "enter", "()Z"⟩, prog_6_method_13_code, 33, 1, (some .boolean), false, 632, 631, 15, 76, 4)
def mr_34 : MR := (⟨"MonsoonTrade$Reader", "readBracket", "()V"⟩, prog_6_method_12_code, 28, 1, none, false, 636, 635, 16, 76, 4)
def mr_35 : MR := (⟨"MonsoonTrade$Reckoner", "setVoyage", "(IIII)V"⟩, prog_7_method_2_code, 30, 5, none, false, 921, 919, 920, 77, 5)
def mr_36 : MR := (⟨"MonsoonTrade$Reckoner", "setOwn", "(II)V"⟩, prog_7_method_3_code, 15, 3, none, false, 925, 923, 924, 77, 5)
def mr_37 : MR := (⟨"MonsoonTrade$Reckoner", "reckon", "(LMonsoonTrade$Text;I)I"⟩, prog_7_method_4_code, 42, 4, (some .int), false, 929, 927, 928, 77, 5)
def mr_38 : MR := (⟨"MonsoonTrade$Reckoner", "step", "(I)V"⟩, prog_7_method_5_code, 111, 5, none, false, 937, 936, 22, 77, 5)
def mr_39 : MR := (⟨"MonsoonTrade$Reckoner", "push", "(I)V"⟩, prog_7_method_7_code, 33, 2, none, false, 941, 940, 23, 77, 5)
def mr_40 : MR := (⟨"MonsoonTrade$Reckoner", "pop", "()I"⟩, prog_7_method_8_code, 29, 1, (some .int), false, 946, 945, 24, 77, 5)
def mr_41 : MR := (⟨"MonsoonTrade$Reckoner", "join", "(III)I"⟩, prog_7_method_6_code, 122, 3, (some .int), true, 949, 948, 0, 77, 5)
def mr_42 : MR := (⟨"MonsoonTrade$Sea", "found", "(II)I"⟩, prog_8_method_3_code, 46, 4, (some .int), false, 711, 709, 710, 71, 6)
def mr_43 : MR := (⟨"MonsoonTrade$Sea", "has", "(I)Z"⟩, prog_8_method_2_code, 12, 2, (some .boolean), false, 720, 718, 719, 71, 6)
def mr_44 : MR := (⟨"MonsoonTrade$Sea", "crossing", "(III)I"⟩, prog_8_method_5_code, 96, 8, (some .int), false, 766, 764, 765, 71, 6)
def mr_45 : MR := (⟨"MonsoonTrade$Sea", "tellItself", "(II)V"⟩, prog_8_method_4_code, 21, 3, none, false, 821, 819, 820, 71, 6)
def mr_46 : MR := (⟨"MonsoonTrade$Sheet", "missing", "()Z"⟩, prog_9_method_2_code, 14, 1, (some .boolean), false, 748, 746, 747, 82, 7)
def mr_47 : MR := (⟨"MonsoonTrade$Sheet", "holds", "(I)Z"⟩, prog_9_method_3_code, 12, 2, (some .boolean), false, 752, 750, 751, 82, 7)
def mr_48 : MR := (⟨"MonsoonTrade$Sheet", "become", "(II)V"⟩, prog_9_method_4_code, 19, 3, none, false, 1066, 1064, 1065, 82, 7)
def mr_49 : MR := (⟨"MonsoonTrade$Sheet", "put", "(II)V"⟩, prog_9_method_5_code, 45, 3, none, false, 1075, 1073, 1074, 82, 7)
def mr_50 : MR := (⟨"MonsoonTrade$Text", "keep", "(LMonsoonTrade$Reader;)V"⟩, prog_10_method_2_code, 30, 2, none, false, 644, 642, 643, 81, 8)
def mr_51 : MR := (⟨"MonsoonTrade$Text", "firstOf", "(I)I"⟩, prog_10_method_3_code, 17, 2, (some .int), false, 933, 931, 932, 81, 8)
def mr_52 : MR := (⟨"MonsoonTrade$Tokens", "addAll", "(Ljava/lang/String;)V"⟩, prog_11_method_3_code, 27, 3, none, false, 426, 424, 425, 75, 9)
def mr_53 : MR := (⟨"MonsoonTrade$Tokens", "add", "(B)V"⟩, prog_11_method_2_code, 31, 2, none, false, 478, 476, 477, 75, 9)
def mr_54 : MR := (⟨"MonsoonTrade$Tokens", "first", "()V"⟩, prog_11_method_5_code, 10, 1, none, false, 490, 488, 489, 75, 9)
def mr_55 : MR := (⟨"MonsoonTrade$Tokens", "next", "()V"⟩, prog_11_method_6_code, 115, 1, none, false, 494, 492, 493, 75, 9)
def mr_56 : MR := (⟨"MonsoonTrade$Tokens", "isBlank", "(B)Z"⟩, prog_11_method_10_code, 18, 1, (some .boolean), true, 497, 496, 0, 75, 9)
def mr_57 : MR := (⟨"MonsoonTrade$Tokens", "isLetter", "(B)Z"⟩, prog_11_method_11_code, 18, 1, (some .boolean), true, 500, 499, 0, 75, 9)
def mr_58 : MR := (⟨"MonsoonTrade$Tokens", "takeWord", "()V"⟩, prog_11_method_7_code, 155, 6, none, false, 504, 503, 0, 75, 9)
def mr_59 : MR := (⟨"MonsoonTrade$Tokens", "isDigit", "(B)Z"⟩, prog_11_method_12_code, 18, 1, (some .boolean), true, 508, 507, 0, 75, 9)
def mr_60 : MR := (⟨"MonsoonTrade$Tokens", "takeNumber", "()V"⟩, prog_11_method_8_code, 104, 1, none, false, 512, 511, 1, 75, 9)
def mr_61 : MR := (⟨"MonsoonTrade$Tokens", "takeSign", "()V"⟩, prog_11_method_9_code, 44, 2, none, false, 516, 515, 2, 75, 9)
def mr_62 : MR := (⟨"MonsoonTrade$Tokens", "clear", "()V"⟩, prog_11_method_4_code, 6, 1, none, false, 640, 638, 639, 75, 9)
def mr_63 : MR := (⟨"MonsoonTrade$Venture", "isOn", "(I)Z"⟩, prog_12_method_4_code, 21, 2, (some .boolean), false, 856, 854, 855, 80, 10)
def mr_64 : MR := (⟨"MonsoonTrade$Venture", "goDown", "()V"⟩, prog_12_method_6_code, 22, 1, none, false, 860, 858, 859, 80, 10)
def mr_65 : MR := (⟨"MonsoonTrade$Venture", "found", "(IIII)V"⟩, prog_12_method_2_code, 65, 5, none, false, 884, 882, 883, 80, 10)
def mr_66 : MR := (⟨"MonsoonTrade$Venture", "brings", "()I"⟩, prog_12_method_3_code, 31, 1, (some .int), false, 888, 886, 887, 80, 10)
def mr_67 : MR := (⟨"MonsoonTrade$Venture", "waits", "()Z"⟩, prog_12_method_5_code, 14, 1, (some .boolean), false, 904, 902, 903, 80, 10)
def mr_68 : MR := (⟨"MonsoonTrade$Venture", "isOfKind", "(I)Z"⟩, prog_12_method_7_code, 39, 4, (some .boolean), false, 1083, 1081, 1082, 80, 10)
def mr_69 : MR := (⟨"MonsoonTrade", "text", "()I"⟩, prog_1_method_23_code, 70, 2, (some .int), false, 482, 480, 481, 70, 11)
def mr_70 : MR := (⟨"MonsoonTrade", "within", "(III)Z"⟩, prog_1_method_32_code, 16, 3, (some .boolean), true, 624, 623, 0, 70, 11)
def mr_71 : MR := (⟨"MonsoonTrade", "port", "(II)I"⟩, prog_1_method_2_code, 48, 3, (some .int), false, 706, 704, 705, 70, 11)
def mr_72 : MR := (⟨"MonsoonTrade", "wants", "(IIII)I"⟩, prog_1_method_3_code, 77, 6, (some .int), false, 716, 714, 715, 70, 11)
def mr_73 : MR := (⟨"MonsoonTrade", "isGood", "(I)Z"⟩, prog_1_method_35_code, 7, 1, (some .boolean), true, 724, 723, 0, 70, 11)
def mr_74 : MR := (⟨"MonsoonTrade", "price", "(II)I"⟩, prog_1_method_4_code, 35, 3, (some .int), false, 733, 731, 732, 70, 11)
def mr_75 : MR := (⟨"MonsoonTrade", "wind", "(II)I"⟩, prog_1_method_5_code, 35, 3, (some .int), false, 737, 735, 736, 70, 11)
def mr_76 : MR := (⟨"MonsoonTrade", "winds", "(IIII)I"⟩, prog_1_method_6_code, 131, 8, (some .int), false, 741, 739, 740, 70, 11)
def mr_77 : MR := (⟨"MonsoonTrade", "isSheet", "(I)Z"⟩, prog_1_method_36_code, 7, 1, (some .boolean), true, 744, 743, 0, 70, 11)
def mr_78 : MR := (⟨"MonsoonTrade", "clamp", "(III)I"⟩, prog_1_method_33_code, 10, 3, (some .int), true, 756, 755, 0, 70, 11)
def mr_79 : MR := (⟨"MonsoonTrade", "way", "(III)I"⟩, prog_1_method_7_code, 52, 4, (some .int), false, 762, 760, 761, 70, 11)
def mr_80 : MR := (⟨"MonsoonTrade", "monthOf", "(I)I"⟩, prog_1_method_34_code, 8, 1, (some .int), true, 772, 771, 0, 70, 11)
def mr_81 : MR := (⟨"MonsoonTrade", "dhow", "(III)I"⟩, prog_1_method_8_code, 91, 5, (some .int), false, 780, 778, 779, 70, 11)
def mr_82 : MR := (⟨"MonsoonTrade", "told", "(II)I"⟩, prog_1_method_9_code, 106, 4, (some .int), false, 785, 783, 784, 70, 11)
def mr_83 : MR := (⟨"MonsoonTrade", "isDhow", "(I)Z"⟩, prog_1_method_37_code, 12, 2, (some .boolean), false, 789, 788, 17, 70, 11)
def mr_84 : MR := (⟨"MonsoonTrade", "good", "(II)I"⟩, prog_1_method_10_code, 30, 3, (some .int), false, 797, 795, 796, 70, 11)
def mr_85 : MR := (⟨"MonsoonTrade", "sell", "(III)I"⟩, prog_1_method_11_code, 114, 6, (some .int), false, 801, 799, 800, 70, 11)
def mr_86 : MR := (⟨"MonsoonTrade", "buy", "(III)I"⟩, prog_1_method_12_code, 151, 7, (some .int), false, 809, 807, 808, 70, 11)
def mr_87 : MR := (⟨"MonsoonTrade", "sail", "(II)I"⟩, prog_1_method_13_code, 110, 5, (some .int), false, 813, 811, 812, 70, 11)
def mr_88 : MR := (⟨"MonsoonTrade", "exchangeNews", "(LMonsoonTrade$Dhow;)V"⟩, prog_1_method_42_code, 48, 3, none, false, 817, 816, 18, 70, 11)
def mr_89 : MR := (⟨"MonsoonTrade", "days", "(I)I"⟩, prog_1_method_14_code, 61, 3, (some .int), false, 835, 833, 834, 70, 11)
def mr_90 : MR := (⟨"MonsoonTrade", "bringIn", "()V"⟩, prog_1_method_41_code, 52, 3, none, false, 839, 838, 19, 70, 11)
def mr_91 : MR := (⟨"MonsoonTrade", "lose", "(I)I"⟩, prog_1_method_15_code, 72, 4, (some .int), false, 847, 845, 846, 70, 11)
def mr_92 : MR := (⟨"MonsoonTrade", "heard", "(IIII)I"⟩, prog_1_method_16_code, 161, 7, (some .int), false, 864, 862, 863, 70, 11)
def mr_93 : MR := (⟨"MonsoonTrade", "venture", "(IIII)I"⟩, prog_1_method_17_code, 156, 6, (some .int), false, 876, 874, 875, 70, 11)
def mr_94 : MR := (⟨"MonsoonTrade", "ventureTold", "(II)I"⟩, prog_1_method_18_code, 106, 4, (some .int), false, 892, 890, 891, 70, 11)
def mr_95 : MR := (⟨"MonsoonTrade", "isVenture", "(I)Z"⟩, prog_1_method_38_code, 12, 2, (some .boolean), false, 896, 895, 20, 70, 11)
def mr_96 : MR := (⟨"MonsoonTrade", "on", "(II)I"⟩, prog_1_method_19_code, 55, 4, (some .int), false, 900, 898, 899, 70, 11)
def mr_97 : MR := (⟨"MonsoonTrade", "begin", "(I)I"⟩, prog_1_method_20_code, 56, 3, (some .int), false, 908, 906, 907, 70, 11)
def mr_98 : MR := (⟨"MonsoonTrade", "end", "(I)I"⟩, prog_1_method_21_code, 186, 7, (some .int), false, 912, 910, 911, 70, 11)
def mr_99 : MR := (⟨"MonsoonTrade", "menOf", "(I)I"⟩, prog_1_method_46_code, 58, 5, (some .int), false, 916, 915, 21, 70, 11)
def mr_100 : MR := (⟨"MonsoonTrade", "payBottoms", "(I)V"⟩, prog_1_method_47_code, 67, 4, none, false, 958, 957, 25, 70, 11)
def mr_101 : MR := (⟨"MonsoonTrade", "weighAll", "(I)J"⟩, prog_1_method_48_code, 60, 6, (some .long), false, 962, 961, 26, 70, 11)
def mr_102 : MR := (⟨"MonsoonTrade", "weigh", "(LMonsoonTrade$Venture;)I"⟩, prog_1_method_49_code, 63, 3, (some .int), false, 966, 965, 27, 70, 11)
def mr_103 : MR := (⟨"MonsoonTrade", "partWith", "(LMonsoonTrade$Venture;LMonsoonTrade$Dhow;IJ)V"⟩, prog_1_method_50_code, 175, 8, none, false, 970, 969, 28, 70, 11)
def mr_104 : MR := (⟨"MonsoonTrade", "feed", "(IJ)I"⟩, prog_1_method_22_code, 70, 5, (some .int), false, 974, 972, 973, 70, 11)
def mr_105 : MR := (⟨"MonsoonTrade", "force", "(I)I"⟩, prog_1_method_24_code, 23, 3, (some .int), false, 980, 978, 979, 70, 11)
def mr_106 : MR := (⟨"MonsoonTrade", "isText", "(I)Z"⟩, prog_1_method_39_code, 12, 2, (some .boolean), false, 984, 983, 29, 70, 11)
def mr_107 : MR := (⟨"MonsoonTrade", "says", "(IIIIIII)J"⟩, prog_1_method_25_code, 129, 8, (some .long), false, 988, 986, 987, 70, 11)
def mr_108 : MR := (⟨"MonsoonTrade", "order", "(IIII)J"⟩, prog_1_method_26_code, 91, 5, (some .long), false, 995, 993, 994, 70, 11)
def mr_109 : MR := (⟨"MonsoonTrade", "isPlan", "(III)Z"⟩, prog_1_method_40_code, 34, 4, (some .boolean), false, 999, 998, 30, 70, 11)
def mr_110 : MR := (⟨"MonsoonTrade", "plan", "(III)Z"⟩, prog_1_method_43_code, 79, 5, (some .boolean), false, 1003, 1002, 31, 70, 11)
def mr_111 : MR := (⟨"MonsoonTrade", "leg", "(IIII)I"⟩, prog_1_method_27_code, 72, 5, (some .int), false, 1046, 1044, 1045, 70, 11)
def mr_112 : MR := (⟨"MonsoonTrade", "count", "(I)I"⟩, prog_1_method_28_code, 106, 2, (some .int), false, 1050, 1048, 1049, 70, 11)
def mr_113 : MR := (⟨"MonsoonTrade", "lostDhows", "()I"⟩, prog_1_method_44_code, 35, 3, (some .int), false, 1054, 1053, 37, 70, 11)
def mr_114 : MR := (⟨"MonsoonTrade", "openVentures", "()I"⟩, prog_1_method_45_code, 35, 3, (some .int), false, 1058, 1057, 38, 70, 11)
def mr_115 : MR := (⟨"MonsoonTrade", "sheet", "(III)I"⟩, prog_1_method_29_code, 64, 4, (some .int), false, 1062, 1060, 1061, 70, 11)
def mr_116 : MR := (⟨"MonsoonTrade", "cell", "(III)I"⟩, prog_1_method_30_code, 50, 5, (some .int), false, 1071, 1069, 1070, 70, 11)
def mr_117 : MR := (⟨"MonsoonTrade", "taken", "(II)I"⟩, prog_1_method_31_code, 51, 3, (some .int), false, 1079, 1077, 1078, 70, 11)
def mr_118 : MR := (⟨"MonsoonTradeModel", "port", "(II)I"⟩, prog_14_method_6_code, 104, 4, (some .int), false, 1089, 1087, 1088, 90, 12)
def mr_119 : MR := (⟨"MonsoonTradeModel", "isIn", "(JJJ)Z"⟩, prog_14_method_1_code, 19, 6, (some .boolean), true, 1093, 1092, 0, 90, 12)
def mr_120 : MR := (⟨"MonsoonTradeModel", "wants", "(IIII)I"⟩, prog_14_method_7_code, 73, 5, (some .int), false, 1097, 1095, 1096, 90, 12)
def mr_121 : MR := (⟨"MonsoonTradeModel", "isPort", "(I)Z"⟩, prog_14_method_2_code, 18, 2, (some .boolean), false, 1102, 1100, 39, 90, 12)
def mr_122 : MR := (⟨"MonsoonTradeModel", "isGood", "(I)Z"⟩, prog_14_method_4_code, 10, 1, (some .boolean), true, 1105, 1104, 0, 90, 12)
def mr_123 : MR := (⟨"MonsoonTradeModel", "priceOf", "(II)I"⟩, prog_14_method_5_code, 47, 4, (some .int), false, 1111, 1110, 40, 90, 12)
def mr_124 : MR := (⟨"MonsoonTradeModel", "price", "(II)I"⟩, prog_14_method_8_code, 27, 3, (some .int), false, 1115, 1113, 1114, 90, 12)
def mr_125 : MR := (⟨"MonsoonTradeModel", "wind", "(II)I"⟩, prog_14_method_9_code, 38, 3, (some .int), false, 1119, 1117, 1118, 90, 12)
def mr_126 : MR := (⟨"MonsoonTradeModel", "winds", "(IIII)I"⟩, prog_14_method_10_code, 161, 9, (some .int), false, 1126, 1124, 1125, 90, 12)
def mr_127 : MR := (⟨"MonsoonTradeModel", "way", "(III)I"⟩, prog_14_method_12_code, 46, 4, (some .int), false, 1131, 1129, 1130, 90, 12)
def mr_128 : MR := (⟨"MonsoonTradeModel", "wayOf", "(III)I"⟩, prog_14_method_11_code, 132, 10, (some .int), false, 1136, 1135, 41, 90, 12)
def mr_129 : MR := (⟨"MonsoonTradeModel", "dhow", "(III)I"⟩, prog_14_method_18_code, 113, 4, (some .int), false, 1140, 1138, 1139, 90, 12)
def mr_130 : MR := (⟨"MonsoonTradeModel", "told", "(II)I"⟩, prog_14_method_19_code, 128, 3, (some .int), false, 1145, 1143, 1144, 90, 12)
def mr_131 : MR := (⟨"MonsoonTradeModel", "isDhow", "(I)Z"⟩, prog_14_method_3_code, 18, 2, (some .boolean), false, 1149, 1148, 42, 90, 12)
def mr_132 : MR := (⟨"MonsoonTradeModel", "all", "(I)I"⟩, prog_14_method_16_code, 42, 2, (some .int), false, 1153, 1152, 43, 90, 12)
def mr_133 : MR := (⟨"MonsoonTradeModel", "good", "(II)I"⟩, prog_14_method_20_code, 31, 3, (some .int), false, 1157, 1155, 1156, 90, 12)
def mr_134 : MR := (⟨"MonsoonTradeModel", "sell", "(III)I"⟩, prog_14_method_21_code, 110, 4, (some .int), false, 1161, 1159, 1160, 90, 12)
def mr_135 : MR := (⟨"MonsoonTradeModel", "isThere", "(I)Z"⟩, prog_14_method_17_code, 25, 2, (some .boolean), false, 1165, 1164, 44, 90, 12)
def mr_136 : MR := (⟨"MonsoonTradeModel", "buy", "(III)I"⟩, prog_14_method_22_code, 169, 5, (some .int), false, 1169, 1167, 1168, 90, 12)
def mr_137 : MR := (⟨"MonsoonTradeModel", "sail", "(II)I"⟩, prog_14_method_23_code, 114, 4, (some .int), false, 1173, 1171, 1172, 90, 12)
def mr_138 : MR := (⟨"MonsoonTradeModel", "talk", "(I)V"⟩, prog_14_method_15_code, 83, 5, none, false, 1177, 1176, 45, 90, 12)
def mr_139 : MR := (⟨"MonsoonTradeModel", "know", "(I)V"⟩, prog_14_method_13_code, 44, 3, none, false, 1181, 1180, 46, 90, 12)
def mr_140 : MR := (⟨"MonsoonTradeModel", "hear", "(II)V"⟩, prog_14_method_14_code, 61, 4, none, false, 1185, 1184, 47, 90, 12)
def mr_141 : MR := (⟨"MonsoonTradeModel", "days", "(I)I"⟩, prog_14_method_24_code, 99, 4, (some .int), false, 1189, 1187, 1188, 90, 12)
def mr_142 : MR := (⟨"MonsoonTradeModel", "lose", "(I)I"⟩, prog_14_method_25_code, 164, 3, (some .int), false, 1194, 1192, 1193, 90, 12)
def mr_143 : MR := (⟨"MonsoonTradeModel", "heard", "(IIII)I"⟩, prog_14_method_26_code, 183, 7, (some .int), false, 1198, 1196, 1197, 90, 12)
def mr_144 : MR := (⟨"MonsoonTradeModel", "venture", "(IIII)I"⟩, prog_14_method_27_code, 221, 5, (some .int), false, 1203, 1201, 1202, 90, 12)
def mr_145 : MR := (⟨"MonsoonTradeModel", "ventureTold", "(II)I"⟩, prog_14_method_29_code, 116, 3, (some .int), false, 1208, 1206, 1207, 90, 12)
def mr_146 : MR := (⟨"MonsoonTradeModel", "isVenture", "(I)Z"⟩, prog_14_method_28_code, 18, 2, (some .boolean), false, 1212, 1211, 48, 90, 12)
def mr_147 : MR := (⟨"MonsoonTradeModel", "on", "(II)I"⟩, prog_14_method_30_code, 50, 3, (some .int), false, 1216, 1214, 1215, 90, 12)
def mr_148 : MR := (⟨"MonsoonTradeModel", "begin", "(I)I"⟩, prog_14_method_31_code, 61, 2, (some .int), false, 1220, 1218, 1219, 90, 12)
def mr_149 : MR := (⟨"MonsoonTradeModel", "end", "(I)I"⟩, prog_14_method_38_code, 244, 4, (some .int), false, 1224, 1222, 1223, 90, 12)
def mr_150 : MR := (⟨"MonsoonTradeModel", "value", "(IIIIIII)I"⟩, prog_14_method_58_code, 282, 12, (some .int), false, 1228, 1227, 49, 90, 12)
def mr_151 : MR := (⟨"MonsoonTradeModel", "joined", "(III)I"⟩, prog_14_method_57_code, 122, 3, (some .int), true, 1231, 1230, 0, 90, 12)
def mr_152 : MR := (⟨"MonsoonTradeModel", "held", "(JI)I"⟩, prog_14_method_32_code, 24, 3, (some .int), true, 1234, 1233, 0, 90, 12)
def mr_153 : MR := (⟨"MonsoonTradeModel", "payBottoms", "(I)V"⟩, prog_14_method_35_code, 75, 3, none, false, 1238, 1237, 50, 90, 12)
def mr_154 : MR := (⟨"MonsoonTradeModel", "pay", "(III)V"⟩, prog_14_method_34_code, 21, 4, none, false, 1242, 1241, 51, 90, 12)
def mr_155 : MR := (⟨"MonsoonTradeModel", "weigh", "(I)J"⟩, prog_14_method_36_code, 135, 7, (some .long), false, 1246, 1245, 52, 90, 12)
def mr_156 : MR := (⟨"MonsoonTradeModel", "takesPart", "(II)Z"⟩, prog_14_method_33_code, 35, 3, (some .boolean), false, 1250, 1249, 53, 90, 12)
def mr_157 : MR := (⟨"MonsoonTradeModel", "part", "(IJJ)V"⟩, prog_14_method_37_code, 250, 10, none, false, 1254, 1253, 54, 90, 12)
def mr_158 : MR := (⟨"MonsoonTradeModel", "add", "(III)V"⟩, prog_14_method_40_code, 47, 4, none, false, 1263, 1262, 55, 90, 12)
def mr_159 : MR := (⟨"MonsoonTradeModel", "feed", "(IJ)I"⟩, prog_14_method_54_code, 78, 5, (some .int), false, 1448, 1446, 1447, 90, 12)
def mr_160 : MR := (⟨"MonsoonTradeModel", "text", "()I"⟩, prog_14_method_55_code, 51, 2, (some .int), false, 1453, 1451, 1452, 90, 12)
def mr_161 : MR := (⟨"MonsoonTradeModel", "isText", "()Z"⟩, prog_14_method_53_code, 83, 3, (some .boolean), false, 1457, 1456, 56, 90, 12)
def mr_162 : MR := (⟨"MonsoonTradeModel", "next", "()V"⟩, prog_14_method_46_code, 234, 3, none, false, 1461, 1460, 57, 90, 12)
def mr_163 : MR := (⟨"MonsoonTradeModel", "letter", "(I)I"⟩, prog_14_method_43_code, 23, 2, (some .int), false, 1465, 1464, 58, 90, 12)
def mr_164 : MR := (⟨"MonsoonTradeModel", "isLetter", "(I)Z"⟩, prog_14_method_41_code, 18, 1, (some .boolean), true, 1468, 1467, 0, 90, 12)
def mr_165 : MR := (⟨"MonsoonTradeModel", "wordAt", "(II)I"⟩, prog_14_method_44_code, 95, 6, (some .int), false, 1472, 1471, 59, 90, 12)
def mr_166 : MR := (⟨"MonsoonTradeModel", "isDigit", "(I)Z"⟩, prog_14_method_42_code, 18, 1, (some .boolean), true, 1475, 1474, 0, 90, 12)
def mr_167 : MR := (⟨"MonsoonTradeModel", "isSign", "(I)Z"⟩, prog_14_method_45_code, 54, 1, (some .boolean), true, 1478, 1477, 0, 90, 12)
def mr_168 : MR := (⟨"MonsoonTradeModel", "isRead", "(I)Z"⟩, prog_14_method_52_code, 367, 5, (some .boolean), false, 1482, 1481, 60, 90, 12)
def mr_169 : MR := (⟨"MonsoonTradeModel", "openMany", "()I"⟩, prog_14_method_49_code, 62, 3, (some .int), false, 1486, 1485, 61, 90, 12)
def mr_170 : MR := (⟨"MonsoonTradeModel", "settle", "(II)V"⟩, prog_14_method_48_code, 54, 3, none, false, 1490, 1489, 62, 90, 12)
def mr_171 : MR := (⟨"MonsoonTradeModel", "rankOf", "(I)I"⟩, prog_14_method_47_code, 102, 1, (some .int), true, 1493, 1492, 0, 90, 12)
def mr_172 : MR := (⟨"MonsoonTradeModel", "waitsFor", "(I)Z"⟩, prog_14_method_50_code, 40, 4, (some .boolean), false, 1497, 1496, 63, 90, 12)
def mr_173 : MR := (⟨"MonsoonTradeModel", "hasCompared", "()Z"⟩, prog_14_method_51_code, 53, 2, (some .boolean), false, 1501, 1500, 64, 90, 12)
def mr_174 : MR := (⟨"MonsoonTradeModel", "force", "(I)I"⟩, prog_14_method_56_code, 27, 3, (some .int), false, 1505, 1503, 1504, 90, 12)
def mr_175 : MR := (⟨"MonsoonTradeModel", "says", "(IIIIIII)J"⟩, prog_14_method_59_code, 125, 9, (some .long), false, 1509, 1507, 1508, 90, 12)
def mr_176 : MR := (⟨"MonsoonTradeModel", "order", "(IIII)J"⟩, prog_14_method_64_code, 70, 5, (some .long), false, 1517, 1515, 1516, 90, 12)
def mr_177 : MR := (⟨"MonsoonTradeModel", "mayOrder", "(III)Z"⟩, prog_14_method_63_code, 38, 4, (some .boolean), false, 1521, 1520, 65, 90, 12)
def mr_178 : MR := (⟨"MonsoonTradeModel", "finds", "(III)Z"⟩, prog_14_method_62_code, 133, 7, (some .boolean), false, 1525, 1524, 66, 90, 12)
def mr_179 : MR := (⟨"MonsoonTradeModel", "takeWords", "(I)V"⟩, prog_14_method_60_code, 133, 7, none, false, 1529, 1528, 67, 90, 12)
def mr_180 : MR := (⟨"MonsoonTradeModel", "goes", "(IIII)Z"⟩, prog_14_method_61_code, 314, 15, (some .boolean), false, 1533, 1532, 68, 90, 12)
def mr_181 : MR := (⟨"MonsoonTradeModel", "leg", "(IIII)I"⟩, prog_14_method_65_code, 91, 7, (some .int), false, 1537, 1535, 1536, 90, 12)
def mr_182 : MR := (⟨"MonsoonTradeModel", "count", "(I)I"⟩, prog_14_method_66_code, 160, 4, (some .int), false, 1541, 1539, 1540, 90, 12)
def mr_183 : MR := (⟨"MonsoonTradeModel", "sheet", "(III)I"⟩, prog_14_method_67_code, 106, 5, (some .int), false, 1545, 1543, 1544, 90, 12)
def mr_184 : MR := (⟨"MonsoonTradeModel", "cell", "(III)I"⟩, prog_14_method_68_code, 87, 4, (some .int), false, 1549, 1547, 1548, 90, 12)
def mr_185 : MR := (⟨"MonsoonTradeModel", "taken", "(II)I"⟩, prog_14_method_69_code, 101, 5, (some .int), false, 1553, 1551, 1552, 90, 12)
def mr_186 : MR := (⟨"java/util/Arrays", "fill", "([II)V"⟩, prog_23_method_103_code, 21, 4, none, true, 125, 124, 0, 74, 99)
def mr_187 : MR := (⟨"java/lang/String", "length", "()I"⟩, prog_19_method_54_code, 11, 1, (some .int), false, 430, 428, 429, 83, 99)
def mr_188 : MR := (⟨"java/lang/String", "coder", "()B"⟩, prog_19_method_152_code, 15, 1, (some .byte), false, 434, 432, 433, 83, 99)
def mr_189 : MR := (⟨"java/lang/String", "charAt", "(I)C"⟩, prog_19_method_56_code, 25, 2, (some .char), false, 440, 438, 439, 83, 99)
def mr_190 : MR := (⟨"java/lang/String", "isLatin1", "()Z"⟩, prog_19_method_154_code, 19, 1, (some .boolean), false, 444, 442, 443, 83, 99)
def mr_191 : MR := (⟨"java/lang/StringLatin1", "charAt", "([BI)C"⟩, prog_20_method_2_code, 15, 2, (some .char), true, 447, 446, 0, 84, 99)
def mr_192 : MR := (⟨"java/lang/String", "checkIndex", "(II)V"⟩, prog_19_method_155_code, 10, 2, none, true, 450, 449, 0, 83, 99)
def mr_193 : MR := (⟨"jdk/internal/util/Preconditions", "checkIndex", "(IILjava/util/function/BiFunction;)I"⟩, prog_24_method_11_code, 18, 3, (some .int), true, 455, 454, 0, 85, 99)
def mr_194 : MR := (⟨"java/lang/String", "indexOf", "(I)I"⟩, prog_19_method_79_code, 7, 2, (some .int), false, 521, 519, 520, 83, 99)
def mr_195 : MR := (⟨"java/lang/String", "indexOf", "(II)I"⟩, prog_19_method_80_code, 37, 3, (some .int), false, 525, 523, 524, 83, 99)
def mr_196 : MR := (⟨"java/lang/StringLatin1", "indexOf", "([BIII)I"⟩, prog_20_method_22_code, 37, 4, (some .int), true, 529, 528, 0, 84, 99)
def mr_197 : MR := (⟨"java/lang/StringLatin1", "canEncode", "(I)Z"⟩, prog_20_method_4_code, 17, 1, (some .boolean), true, 532, 531, 0, 84, 99)
def mr_198 : MR := (⟨"java/lang/StringLatin1", "indexOfChar", "([BIII)I"⟩, prog_20_method_23_code, 33, 6, (some .int), true, 541, 540, 0, 84, 99)
def mr_199 : MR := (⟨"java/util/Arrays", "copyOf", "([II)[I"⟩, prog_23_method_123_code, 33, 3, (some ((Jvm.ClassFile.FieldType.array Jvm.ClassFile.FieldType.int))), true, 647, 646, 0, 74, 99)
def mr_200 : MR := (⟨"java/lang/Integer", "compare", "(II)I"⟩, prog_17_method_40_code, 20, 2, (some .int), true, 769, 768, 0, 91, 99)
def mr_201 : MR := (⟨"MonsoonTradeLaw", "law", "([I)Z"⟩, code, 1352, 4, (some .boolean), false, 0, 0, 0, 69, 99)
def mt (mi : Nat) : MR := cond (Nat.ble 101 mi) (cond (Nat.ble 151 mi) (cond (Nat.ble 176 mi) (cond (Nat.ble 189 mi) (cond (Nat.ble 195 mi) (cond (Nat.ble 198 mi) (cond (Nat.ble 200 mi) (cond (Nat.ble 201 mi) (mr_201) (mr_200)) (cond (Nat.ble 199 mi) (mr_199) (mr_198))) (cond (Nat.ble 196 mi) (cond (Nat.ble 197 mi) (mr_197) (mr_196)) (mr_195))) (cond (Nat.ble 192 mi) (cond (Nat.ble 193 mi) (cond (Nat.ble 194 mi) (mr_194) (mr_193)) (mr_192)) (cond (Nat.ble 190 mi) (cond (Nat.ble 191 mi) (mr_191) (mr_190)) (mr_189)))) (cond (Nat.ble 182 mi) (cond (Nat.ble 185 mi) (cond (Nat.ble 187 mi) (cond (Nat.ble 188 mi) (mr_188) (mr_187)) (cond (Nat.ble 186 mi) (mr_186) (mr_185))) (cond (Nat.ble 183 mi) (cond (Nat.ble 184 mi) (mr_184) (mr_183)) (mr_182))) (cond (Nat.ble 179 mi) (cond (Nat.ble 180 mi) (cond (Nat.ble 181 mi) (mr_181) (mr_180)) (mr_179)) (cond (Nat.ble 177 mi) (cond (Nat.ble 178 mi) (mr_178) (mr_177)) (mr_176))))) (cond (Nat.ble 163 mi) (cond (Nat.ble 169 mi) (cond (Nat.ble 172 mi) (cond (Nat.ble 174 mi) (cond (Nat.ble 175 mi) (mr_175) (mr_174)) (cond (Nat.ble 173 mi) (mr_173) (mr_172))) (cond (Nat.ble 170 mi) (cond (Nat.ble 171 mi) (mr_171) (mr_170)) (mr_169))) (cond (Nat.ble 166 mi) (cond (Nat.ble 167 mi) (cond (Nat.ble 168 mi) (mr_168) (mr_167)) (mr_166)) (cond (Nat.ble 164 mi) (cond (Nat.ble 165 mi) (mr_165) (mr_164)) (mr_163)))) (cond (Nat.ble 157 mi) (cond (Nat.ble 160 mi) (cond (Nat.ble 161 mi) (cond (Nat.ble 162 mi) (mr_162) (mr_161)) (mr_160)) (cond (Nat.ble 158 mi) (cond (Nat.ble 159 mi) (mr_159) (mr_158)) (mr_157))) (cond (Nat.ble 154 mi) (cond (Nat.ble 155 mi) (cond (Nat.ble 156 mi) (mr_156) (mr_155)) (mr_154)) (cond (Nat.ble 152 mi) (cond (Nat.ble 153 mi) (mr_153) (mr_152)) (mr_151)))))) (cond (Nat.ble 126 mi) (cond (Nat.ble 138 mi) (cond (Nat.ble 144 mi) (cond (Nat.ble 147 mi) (cond (Nat.ble 149 mi) (cond (Nat.ble 150 mi) (mr_150) (mr_149)) (cond (Nat.ble 148 mi) (mr_148) (mr_147))) (cond (Nat.ble 145 mi) (cond (Nat.ble 146 mi) (mr_146) (mr_145)) (mr_144))) (cond (Nat.ble 141 mi) (cond (Nat.ble 142 mi) (cond (Nat.ble 143 mi) (mr_143) (mr_142)) (mr_141)) (cond (Nat.ble 139 mi) (cond (Nat.ble 140 mi) (mr_140) (mr_139)) (mr_138)))) (cond (Nat.ble 132 mi) (cond (Nat.ble 135 mi) (cond (Nat.ble 136 mi) (cond (Nat.ble 137 mi) (mr_137) (mr_136)) (mr_135)) (cond (Nat.ble 133 mi) (cond (Nat.ble 134 mi) (mr_134) (mr_133)) (mr_132))) (cond (Nat.ble 129 mi) (cond (Nat.ble 130 mi) (cond (Nat.ble 131 mi) (mr_131) (mr_130)) (mr_129)) (cond (Nat.ble 127 mi) (cond (Nat.ble 128 mi) (mr_128) (mr_127)) (mr_126))))) (cond (Nat.ble 113 mi) (cond (Nat.ble 119 mi) (cond (Nat.ble 122 mi) (cond (Nat.ble 124 mi) (cond (Nat.ble 125 mi) (mr_125) (mr_124)) (cond (Nat.ble 123 mi) (mr_123) (mr_122))) (cond (Nat.ble 120 mi) (cond (Nat.ble 121 mi) (mr_121) (mr_120)) (mr_119))) (cond (Nat.ble 116 mi) (cond (Nat.ble 117 mi) (cond (Nat.ble 118 mi) (mr_118) (mr_117)) (mr_116)) (cond (Nat.ble 114 mi) (cond (Nat.ble 115 mi) (mr_115) (mr_114)) (mr_113)))) (cond (Nat.ble 107 mi) (cond (Nat.ble 110 mi) (cond (Nat.ble 111 mi) (cond (Nat.ble 112 mi) (mr_112) (mr_111)) (mr_110)) (cond (Nat.ble 108 mi) (cond (Nat.ble 109 mi) (mr_109) (mr_108)) (mr_107))) (cond (Nat.ble 104 mi) (cond (Nat.ble 105 mi) (cond (Nat.ble 106 mi) (mr_106) (mr_105)) (mr_104)) (cond (Nat.ble 102 mi) (cond (Nat.ble 103 mi) (mr_103) (mr_102)) (mr_101))))))) (cond (Nat.ble 50 mi) (cond (Nat.ble 75 mi) (cond (Nat.ble 88 mi) (cond (Nat.ble 94 mi) (cond (Nat.ble 97 mi) (cond (Nat.ble 99 mi) (cond (Nat.ble 100 mi) (mr_100) (mr_99)) (cond (Nat.ble 98 mi) (mr_98) (mr_97))) (cond (Nat.ble 95 mi) (cond (Nat.ble 96 mi) (mr_96) (mr_95)) (mr_94))) (cond (Nat.ble 91 mi) (cond (Nat.ble 92 mi) (cond (Nat.ble 93 mi) (mr_93) (mr_92)) (mr_91)) (cond (Nat.ble 89 mi) (cond (Nat.ble 90 mi) (mr_90) (mr_89)) (mr_88)))) (cond (Nat.ble 81 mi) (cond (Nat.ble 84 mi) (cond (Nat.ble 86 mi) (cond (Nat.ble 87 mi) (mr_87) (mr_86)) (cond (Nat.ble 85 mi) (mr_85) (mr_84))) (cond (Nat.ble 82 mi) (cond (Nat.ble 83 mi) (mr_83) (mr_82)) (mr_81))) (cond (Nat.ble 78 mi) (cond (Nat.ble 79 mi) (cond (Nat.ble 80 mi) (mr_80) (mr_79)) (mr_78)) (cond (Nat.ble 76 mi) (cond (Nat.ble 77 mi) (mr_77) (mr_76)) (mr_75))))) (cond (Nat.ble 62 mi) (cond (Nat.ble 68 mi) (cond (Nat.ble 71 mi) (cond (Nat.ble 73 mi) (cond (Nat.ble 74 mi) (mr_74) (mr_73)) (cond (Nat.ble 72 mi) (mr_72) (mr_71))) (cond (Nat.ble 69 mi) (cond (Nat.ble 70 mi) (mr_70) (mr_69)) (mr_68))) (cond (Nat.ble 65 mi) (cond (Nat.ble 66 mi) (cond (Nat.ble 67 mi) (mr_67) (mr_66)) (mr_65)) (cond (Nat.ble 63 mi) (cond (Nat.ble 64 mi) (mr_64) (mr_63)) (mr_62)))) (cond (Nat.ble 56 mi) (cond (Nat.ble 59 mi) (cond (Nat.ble 60 mi) (cond (Nat.ble 61 mi) (mr_61) (mr_60)) (mr_59)) (cond (Nat.ble 57 mi) (cond (Nat.ble 58 mi) (mr_58) (mr_57)) (mr_56))) (cond (Nat.ble 53 mi) (cond (Nat.ble 54 mi) (cond (Nat.ble 55 mi) (mr_55) (mr_54)) (mr_53)) (cond (Nat.ble 51 mi) (cond (Nat.ble 52 mi) (mr_52) (mr_51)) (mr_50)))))) (cond (Nat.ble 25 mi) (cond (Nat.ble 37 mi) (cond (Nat.ble 43 mi) (cond (Nat.ble 46 mi) (cond (Nat.ble 48 mi) (cond (Nat.ble 49 mi) (mr_49) (mr_48)) (cond (Nat.ble 47 mi) (mr_47) (mr_46))) (cond (Nat.ble 44 mi) (cond (Nat.ble 45 mi) (mr_45) (mr_44)) (mr_43))) (cond (Nat.ble 40 mi) (cond (Nat.ble 41 mi) (cond (Nat.ble 42 mi) (mr_42) (mr_41)) (mr_40)) (cond (Nat.ble 38 mi) (cond (Nat.ble 39 mi) (mr_39) (mr_38)) (mr_37)))) (cond (Nat.ble 31 mi) (cond (Nat.ble 34 mi) (cond (Nat.ble 35 mi) (cond (Nat.ble 36 mi) (mr_36) (mr_35)) (mr_34)) (cond (Nat.ble 32 mi) (cond (Nat.ble 33 mi) (mr_33) (mr_32)) (mr_31))) (cond (Nat.ble 28 mi) (cond (Nat.ble 29 mi) (cond (Nat.ble 30 mi) (mr_30) (mr_29)) (mr_28)) (cond (Nat.ble 26 mi) (cond (Nat.ble 27 mi) (mr_27) (mr_26)) (mr_25))))) (cond (Nat.ble 12 mi) (cond (Nat.ble 18 mi) (cond (Nat.ble 21 mi) (cond (Nat.ble 23 mi) (cond (Nat.ble 24 mi) (mr_24) (mr_23)) (cond (Nat.ble 22 mi) (mr_22) (mr_21))) (cond (Nat.ble 19 mi) (cond (Nat.ble 20 mi) (mr_20) (mr_19)) (mr_18))) (cond (Nat.ble 15 mi) (cond (Nat.ble 16 mi) (cond (Nat.ble 17 mi) (mr_17) (mr_16)) (mr_15)) (cond (Nat.ble 13 mi) (cond (Nat.ble 14 mi) (mr_14) (mr_13)) (mr_12)))) (cond (Nat.ble 6 mi) (cond (Nat.ble 9 mi) (cond (Nat.ble 10 mi) (cond (Nat.ble 11 mi) (mr_11) (mr_10)) (mr_9)) (cond (Nat.ble 7 mi) (cond (Nat.ble 8 mi) (mr_8) (mr_7)) (mr_6))) (cond (Nat.ble 3 mi) (cond (Nat.ble 4 mi) (cond (Nat.ble 5 mi) (mr_5) (mr_4)) (mr_3)) (cond (Nat.ble 1 mi) (cond (Nat.ble 2 mi) (mr_2) (mr_1)) (mr_0)))))))
end
section
def pg_0 (pc : Nat) : RI := cond (Nat.ble 11 pc) (cond (Nat.ble 17 pc) (cond (Nat.ble 21 pc) (cond (Nat.ble 24 pc) (cond (Nat.ble 25 pc) ((25, .ireturn, 1, 0, 0, (0), (0), [], 0)) ((24, .iload_n 1, 1, 1, 0, (0), (0), [], 0))) ((21, .goto (-17), 3, 4, 0, (0), (0), [], 0))) (cond (Nat.ble 18 pc) ((18, .iinc 2 1, 3, 2, 0, (1), (0), [], 0)) ((17, .istore_n 1, 1, 1, 0, (0), (0), [], 0)))) (cond (Nat.ble 15 pc) (cond (Nat.ble 16 pc) ((16, .iadd, 1, 0, 0, (0), (0), [], 0)) ((15, .iaload, 1, 0, 0, (0), (0), [], 0))) (cond (Nat.ble 14 pc) ((14, .iload_n 2, 1, 2, 0, (0), (0), [], 0)) ((11, .getfield 18, 3, 0, 5, (0), (0), [], 327))))) (cond (Nat.ble 4 pc) (cond (Nat.ble 6 pc) (cond (Nat.ble 9 pc) (cond (Nat.ble 10 pc) ((10, .aload_n 0, 1, 0, 0, (0), (0), [], 0)) ((9, .iload_n 1, 1, 1, 0, (0), (0), [], 0))) ((6, .if_icmp .ge 18, 3, 24, 0, (0), (0), [], 0))) (cond (Nat.ble 5 pc) ((5, .iconst 4, 1, 0, 0, (4), (0), [], 0)) ((4, .iload_n 2, 1, 2, 0, (0), (0), [], 0)))) (cond (Nat.ble 2 pc) (cond (Nat.ble 3 pc) ((3, .istore_n 2, 1, 2, 0, (0), (0), [], 0)) ((2, .iconst 0, 1, 0, 0, (0), (0), [], 0))) (cond (Nat.ble 1 pc) ((1, .istore_n 1, 1, 1, 0, (0), (0), [], 0)) ((0, .iconst 0, 1, 0, 0, (0), (0), [], 0)))))
def pg_1 (pc : Nat) : RI := cond (Nat.ble 12 pc) (cond (Nat.ble 17 pc) (cond (Nat.ble 20 pc) (cond (Nat.ble 21 pc) ((21, .ireturn, 1, 1, 0, (0), (0), [], 0)) ((20, .iconst 0, 1, 0, 0, (0), (0), [], 0))) ((17, .goto 4, 3, 21, 0, (0), (0), [], 0))) (cond (Nat.ble 13 pc) (cond (Nat.ble 16 pc) ((16, .iconst 1, 1, 0, 0, (1), (0), [], 0)) ((13, .if_icmp .ne 7, 3, 20, 0, (0), (0), [], 0))) ((12, .iconst (-1), 1, 0, 0, (-1), (0), [], 0)))) (cond (Nat.ble 5 pc) (cond (Nat.ble 8 pc) (cond (Nat.ble 9 pc) ((9, .getfield 15, 3, 0, 1, (0), (0), [], 318)) ((8, .aload_n 0, 1, 0, 0, (0), (0), [], 0))) ((5, .if_icmp .eq 15, 3, 20, 0, (0), (0), [], 0))) (cond (Nat.ble 1 pc) (cond (Nat.ble 4 pc) ((4, .iconst (-1), 1, 0, 0, (-1), (0), [], 0)) ((1, .getfield 9, 3, 0, 0, (0), (0), [], 315))) ((0, .aload_n 0, 1, 0, 0, (0), (0), [], 0))))
def pg_2 (pc : Nat) : RI := cond (Nat.ble 12 pc) (cond (Nat.ble 17 pc) (cond (Nat.ble 20 pc) (cond (Nat.ble 21 pc) ((21, .ireturn, 1, 1, 0, (0), (0), [], 0)) ((20, .iconst 0, 1, 0, 0, (0), (0), [], 0))) ((17, .goto 4, 3, 21, 0, (0), (0), [], 0))) (cond (Nat.ble 13 pc) (cond (Nat.ble 16 pc) ((16, .iconst 1, 1, 0, 0, (1), (0), [], 0)) ((13, .if_icmp .eq 7, 3, 20, 0, (0), (0), [], 0))) ((12, .iconst (-1), 1, 0, 0, (-1), (0), [], 0)))) (cond (Nat.ble 5 pc) (cond (Nat.ble 8 pc) (cond (Nat.ble 9 pc) ((9, .getfield 15, 3, 0, 1, (0), (0), [], 318)) ((8, .aload_n 0, 1, 0, 0, (0), (0), [], 0))) ((5, .if_icmp .eq 15, 3, 20, 0, (0), (0), [], 0))) (cond (Nat.ble 1 pc) (cond (Nat.ble 4 pc) ((4, .iconst (-1), 1, 0, 0, (-1), (0), [], 0)) ((1, .getfield 9, 3, 0, 0, (0), (0), [], 315))) ((0, .aload_n 0, 1, 0, 0, (0), (0), [], 0))))
def pg_3 (pc : Nat) : RI := cond (Nat.ble 16 pc) (cond (Nat.ble 25 pc) (cond (Nat.ble 29 pc) (cond (Nat.ble 30 pc) (cond (Nat.ble 33 pc) ((33, .return_, 1, 0, 0, (0), (0), [], 0)) ((30, .invokestatic 43, 3, 186, 2, (0), (0), [], 852))) ((29, .iconst 0, 1, 0, 0, (0), (0), [], 0))) (cond (Nat.ble 26 pc) ((26, .getfield 18, 3, 0, 5, (0), (0), [], 327)) ((25, .aload_n 0, 1, 0, 0, (0), (0), [], 0)))) (cond (Nat.ble 20 pc) (cond (Nat.ble 21 pc) (cond (Nat.ble 22 pc) ((22, .putfield 22, 3, 0, 6, (0), (0), [], 330)) ((21, .iconst (-1), 1, 0, 0, (-1), (0), [], 0))) ((20, .aload_n 0, 1, 0, 0, (0), (0), [], 0))) (cond (Nat.ble 17 pc) ((17, .putfield 32, 3, 0, 4, (0), (0), [], 325)) ((16, .iconst 0, 1, 0, 0, (0), (0), [], 0))))) (cond (Nat.ble 7 pc) (cond (Nat.ble 11 pc) (cond (Nat.ble 12 pc) (cond (Nat.ble 15 pc) ((15, .aload_n 0, 1, 0, 0, (0), (0), [], 0)) ((12, .putfield 15, 3, 0, 1, (0), (0), [], 318))) ((11, .iconst (-1), 1, 0, 0, (-1), (0), [], 0))) (cond (Nat.ble 10 pc) ((10, .aload_n 0, 1, 0, 0, (0), (0), [], 0)) ((7, .putfield 9, 3, 0, 0, (0), (0), [], 315)))) (cond (Nat.ble 2 pc) (cond (Nat.ble 5 pc) (cond (Nat.ble 6 pc) ((6, .iconst (-1), 1, 0, 0, (-1), (0), [], 0)) ((5, .aload_n 0, 1, 0, 0, (0), (0), [], 0))) ((2, .putfield 39, 3, 0, 2, (0), (0), [(0, 0)], 320))) (cond (Nat.ble 1 pc) ((1, .iconst 1, 1, 0, 0, (1), (0), [], 0)) ((0, .aload_n 0, 1, 0, 0, (0), (0), [], 0)))))
def pg_4 (pc : Nat) : RI := cond (Nat.ble 8 pc) (cond (Nat.ble 12 pc) (cond (Nat.ble 13 pc) ((13, .ireturn, 1, 1, 0, (0), (0), [], 0)) ((12, .iconst 0, 1, 0, 0, (0), (0), [], 0))) (cond (Nat.ble 9 pc) ((9, .goto 4, 3, 13, 0, (0), (0), [], 0)) ((8, .iconst 1, 1, 0, 0, (1), (0), [], 0)))) (cond (Nat.ble 4 pc) (cond (Nat.ble 5 pc) ((5, .if_icmp .eq 7, 3, 12, 0, (0), (0), [], 0)) ((4, .iconst (-1), 1, 0, 0, (-1), (0), [], 0))) (cond (Nat.ble 1 pc) ((1, .getfield 22, 3, 0, 6, (0), (0), [], 330)) ((0, .aload_n 0, 1, 0, 0, (0), (0), [], 0))))
def pg_5 (pc : Nat) : RI := cond (Nat.ble 11 pc) (cond (Nat.ble 16 pc) (cond (Nat.ble 20 pc) (cond (Nat.ble 21 pc) ((21, .ireturn, 1, 0, 0, (0), (0), [], 0)) ((20, .iload_n 2, 1, 2, 0, (0), (0), [], 0))) (cond (Nat.ble 17 pc) ((17, .putfield 32, 3, 0, 4, (0), (0), [], 325)) ((16, .isub, 1, 0, 0, (0), (0), [], 0)))) (cond (Nat.ble 12 pc) (cond (Nat.ble 15 pc) ((15, .iload_n 2, 1, 2, 0, (0), (0), [], 0)) ((12, .getfield 32, 3, 0, 4, (0), (0), [], 325))) ((11, .dup, 1, 0, 0, (0), (0), [], 0)))) (cond (Nat.ble 3 pc) (cond (Nat.ble 9 pc) (cond (Nat.ble 10 pc) ((10, .aload_n 0, 1, 0, 0, (0), (0), [], 0)) ((9, .istore_n 2, 1, 2, 0, (0), (0), [], 0))) (cond (Nat.ble 6 pc) ((6, .invokestatic 35, 3, 78, 3, (1), (0), [], 954)) ((3, .getfield 32, 3, 0, 4, (0), (0), [], 325)))) (cond (Nat.ble 1 pc) (cond (Nat.ble 2 pc) ((2, .aload_n 0, 1, 0, 0, (0), (0), [], 0)) ((1, .iconst 0, 1, 0, 0, (0), (0), [], 0))) ((0, .iload_n 1, 1, 1, 0, (0), (0), [], 0))))
def pg_6 (pc : Nat) : RI := cond (Nat.ble 4 pc) (cond (Nat.ble 5 pc) (cond (Nat.ble 8 pc) ((8, .return_, 1, 0, 0, (0), (0), [], 0)) ((5, .invokestatic 21, 3, 186, 2, (0), (0), [], 123))) ((4, .iconst (-1), 1, 0, 0, (-1), (0), [], 0))) (cond (Nat.ble 1 pc) ((1, .getfield 9, 3, 1, 0, (0), (0), [], 126)) ((0, .aload_n 0, 1, 0, 0, (0), (0), [], 0)))
def pg_7 (pc : Nat) : RI := cond (Nat.ble 20 pc) (cond (Nat.ble 27 pc) (cond (Nat.ble 33 pc) (cond (Nat.ble 36 pc) (cond (Nat.ble 39 pc) ((39, .return_, 1, 0, 0, (0), (0), [], 0)) ((36, .goto (-26), 3, 10, 0, (0), (0), [], 0))) ((33, .iinc 4 1, 3, 4, 0, (1), (0), [], 0))) (cond (Nat.ble 29 pc) (cond (Nat.ble 32 pc) ((32, .iastore, 1, 0, 0, (0), (0), [], 0)) ((29, .invokevirtual 27, 3, 19, 2, (0), (0), [], 826))) ((27, .iload 4, 2, 4, 0, (0), (0), [], 0)))) (cond (Nat.ble 23 pc) (cond (Nat.ble 25 pc) (cond (Nat.ble 26 pc) ((26, .aload_n 3, 1, 3, 0, (0), (0), [], 0)) ((25, .iadd, 1, 0, 0, (0), (0), [], 0))) ((23, .iload 4, 2, 4, 0, (0), (0), [], 0))) (cond (Nat.ble 21 pc) (cond (Nat.ble 22 pc) ((22, .imul, 1, 0, 0, (0), (0), [], 0)) ((21, .iconst 4, 1, 0, 0, (4), (0), [], 0))) ((20, .iload_n 1, 1, 1, 0, (0), (0), [], 0))))) (cond (Nat.ble 8 pc) (cond (Nat.ble 13 pc) (cond (Nat.ble 16 pc) (cond (Nat.ble 17 pc) ((17, .getfield 15, 3, 1, 1, (0), (0), [], 128)) ((16, .aload_n 0, 1, 0, 0, (0), (0), [], 0))) ((13, .if_icmp .ge 26, 3, 39, 0, (0), (0), [], 0))) (cond (Nat.ble 10 pc) (cond (Nat.ble 12 pc) ((12, .iconst 4, 1, 0, 0, (4), (0), [], 0)) ((10, .iload 4, 2, 4, 0, (0), (0), [], 0))) ((8, .istore 4, 2, 4, 0, (0), (0), [], 0)))) (cond (Nat.ble 5 pc) (cond (Nat.ble 6 pc) (cond (Nat.ble 7 pc) ((7, .iconst 0, 1, 0, 0, (0), (0), [], 0)) ((6, .iastore, 1, 0, 0, (0), (0), [], 0))) ((5, .iload_n 2, 1, 2, 0, (0), (0), [], 0))) (cond (Nat.ble 1 pc) (cond (Nat.ble 4 pc) ((4, .iload_n 1, 1, 1, 0, (0), (0), [], 0)) ((1, .getfield 9, 3, 1, 0, (0), (0), [], 126))) ((0, .aload_n 0, 1, 0, 0, (0), (0), [], 0)))))
def pg_8 (pc : Nat) : RI := cond (Nat.ble 29 pc) (cond (Nat.ble 42 pc) (cond (Nat.ble 49 pc) (cond (Nat.ble 53 pc) (cond (Nat.ble 56 pc) (cond (Nat.ble 59 pc) ((59, .return_, 1, 0, 0, (0), (0), [], 0)) ((56, .goto (-54), 3, 2, 0, (0), (0), [], 0))) ((53, .iinc 2 1, 3, 2, 0, (1), (0), [], 0))) (cond (Nat.ble 50 pc) ((50, .invokestatic 33, 3, 1000, 5, (0), (0), [], 831)) ((49, .iconst 4, 1, 0, 0, (4), (0), [], 0)))) (cond (Nat.ble 46 pc) (cond (Nat.ble 47 pc) (cond (Nat.ble 48 pc) ((48, .imul, 1, 0, 0, (0), (0), [], 0)) ((47, .iconst 4, 1, 0, 0, (4), (0), [], 0))) ((46, .iload_n 2, 1, 2, 0, (0), (0), [], 0))) (cond (Nat.ble 43 pc) ((43, .getfield 15, 3, 1, 1, (0), (0), [], 128)) ((42, .aload_n 0, 1, 0, 0, (0), (0), [], 0))))) (cond (Nat.ble 35 pc) (cond (Nat.ble 39 pc) (cond (Nat.ble 40 pc) (cond (Nat.ble 41 pc) ((41, .imul, 1, 0, 0, (0), (0), [], 0)) ((40, .iconst 4, 1, 0, 0, (4), (0), [], 0))) ((39, .iload_n 2, 1, 2, 0, (0), (0), [], 0))) (cond (Nat.ble 36 pc) ((36, .getfield 15, 3, 1, 1, (0), (0), [], 128)) ((35, .aload_n 1, 1, 1, 0, (0), (0), [], 0)))) (cond (Nat.ble 33 pc) (cond (Nat.ble 34 pc) ((34, .iastore, 1, 0, 0, (0), (0), [], 0)) ((33, .iaload, 1, 0, 0, (0), (0), [], 0))) (cond (Nat.ble 32 pc) ((32, .iload_n 2, 1, 2, 0, (0), (0), [], 0)) ((29, .getfield 9, 3, 1, 0, (0), (0), [], 126)))))) (cond (Nat.ble 14 pc) (cond (Nat.ble 20 pc) (cond (Nat.ble 24 pc) (cond (Nat.ble 27 pc) (cond (Nat.ble 28 pc) ((28, .aload_n 1, 1, 1, 0, (0), (0), [], 0)) ((27, .iload_n 2, 1, 2, 0, (0), (0), [], 0))) ((24, .getfield 9, 3, 1, 0, (0), (0), [], 126))) (cond (Nat.ble 23 pc) ((23, .aload_n 0, 1, 0, 0, (0), (0), [], 0)) ((20, .if_icmp .le 33, 3, 53, 0, (0), (0), [], 0)))) (cond (Nat.ble 18 pc) (cond (Nat.ble 19 pc) ((19, .iaload, 1, 0, 0, (0), (0), [], 0)) ((18, .iload_n 2, 1, 2, 0, (0), (0), [], 0))) (cond (Nat.ble 15 pc) ((15, .getfield 9, 3, 1, 0, (0), (0), [], 126)) ((14, .aload_n 0, 1, 0, 0, (0), (0), [], 0))))) (cond (Nat.ble 5 pc) (cond (Nat.ble 9 pc) (cond (Nat.ble 12 pc) (cond (Nat.ble 13 pc) ((13, .iaload, 1, 0, 0, (0), (0), [], 0)) ((12, .iload_n 2, 1, 2, 0, (0), (0), [], 0))) ((9, .getfield 9, 3, 1, 0, (0), (0), [], 126))) (cond (Nat.ble 8 pc) ((8, .aload_n 1, 1, 1, 0, (0), (0), [], 0)) ((5, .if_icmp .ge 54, 3, 59, 0, (0), (0), [], 0)))) (cond (Nat.ble 2 pc) (cond (Nat.ble 3 pc) ((3, .bipush 6, 2, 0, 0, (6), (0), [], 0)) ((2, .iload_n 2, 1, 2, 0, (0), (0), [], 0))) (cond (Nat.ble 1 pc) ((1, .istore_n 2, 1, 2, 0, (0), (0), [], 0)) ((0, .iconst 0, 1, 0, 0, (0), (0), [], 0))))))
def pg_9 (pc : Nat) : RI := cond (Nat.ble 7 pc) (cond (Nat.ble 11 pc) (cond (Nat.ble 14 pc) (cond (Nat.ble 15 pc) ((15, .ireturn, 1, 1, 0, (0), (0), [], 0)) ((14, .iconst 0, 1, 0, 0, (0), (0), [], 0))) ((11, .goto 4, 3, 15, 0, (0), (0), [], 0))) (cond (Nat.ble 10 pc) ((10, .iconst 1, 1, 0, 0, (1), (0), [], 0)) ((7, .if_icmp .eq 7, 3, 14, 0, (0), (0), [], 0)))) (cond (Nat.ble 4 pc) (cond (Nat.ble 5 pc) (cond (Nat.ble 6 pc) ((6, .iconst (-1), 1, 0, 0, (-1), (0), [], 0)) ((5, .iaload, 1, 0, 0, (0), (0), [], 0))) ((4, .iload_n 1, 1, 1, 0, (0), (0), [], 0))) (cond (Nat.ble 1 pc) ((1, .getfield 9, 3, 1, 0, (0), (0), [], 126)) ((0, .aload_n 0, 1, 0, 0, (0), (0), [], 0))))
def pg_10 (pc : Nat) : RI := cond (Nat.ble 6 pc) (cond (Nat.ble 8 pc) (cond (Nat.ble 9 pc) (cond (Nat.ble 10 pc) ((10, .ireturn, 1, 0, 0, (0), (0), [], 0)) ((9, .iaload, 1, 0, 0, (0), (0), [], 0))) ((8, .iadd, 1, 0, 0, (0), (0), [], 0))) (cond (Nat.ble 7 pc) ((7, .iload_n 2, 1, 2, 0, (0), (0), [], 0)) ((6, .imul, 1, 0, 0, (0), (0), [], 0)))) (cond (Nat.ble 4 pc) (cond (Nat.ble 5 pc) ((5, .iconst 4, 1, 0, 0, (4), (0), [], 0)) ((4, .iload_n 1, 1, 1, 0, (0), (0), [], 0))) (cond (Nat.ble 1 pc) ((1, .getfield 15, 3, 1, 1, (0), (0), [], 128)) ((0, .aload_n 0, 1, 0, 0, (0), (0), [], 0))))
def pg_11 (pc : Nat) : RI := cond (Nat.ble 60 pc) (cond (Nat.ble 89 pc) (cond (Nat.ble 103 pc) (cond (Nat.ble 110 pc) (cond (Nat.ble 116 pc) (cond (Nat.ble 119 pc) ((119, .return_, 1, 0, 0, (0), (0), [], 0)) ((116, .goto (-39), 3, 77, 0, (0), (0), [], 0))) (cond (Nat.ble 113 pc) ((113, .iinc 4 1, 3, 4, 0, (1), (0), [], 0)) ((110, .putfield 66, 3, 2, 6, (0), (0), [], 274)))) (cond (Nat.ble 108 pc) (cond (Nat.ble 109 pc) ((109, .iadd, 1, 0, 0, (0), (0), [], 0)) ((108, .imul, 1, 0, 0, (0), (0), [], 0))) (cond (Nat.ble 105 pc) ((105, .invokevirtual 70, 3, 10, 3, (0), (0), [], 1010)) ((103, .iload 4, 2, 4, 0, (0), (0), [], 0))))) (cond (Nat.ble 95 pc) (cond (Nat.ble 99 pc) (cond (Nat.ble 100 pc) ((100, .getfield 35, 3, 2, 4, (0), (0), [], 272)) ((99, .aload_n 0, 1, 0, 0, (0), (0), [], 0))) (cond (Nat.ble 96 pc) ((96, .getfield 12, 3, 2, 1, (0), (0), [], 267)) ((95, .aload_n 0, 1, 0, 0, (0), (0), [], 0)))) (cond (Nat.ble 92 pc) (cond (Nat.ble 94 pc) ((94, .iaload, 1, 0, 0, (0), (0), [], 0)) ((92, .iload 4, 2, 4, 0, (0), (0), [], 0))) ((89, .getfield 69, 3, 0, 5, (1), (0), [], 328))))) (cond (Nat.ble 75 pc) (cond (Nat.ble 83 pc) (cond (Nat.ble 85 pc) (cond (Nat.ble 88 pc) ((88, .aload_n 1, 1, 1, 0, (0), (0), [], 0)) ((85, .getfield 66, 3, 2, 6, (0), (0), [], 274))) (cond (Nat.ble 84 pc) ((84, .dup, 1, 0, 0, (0), (0), [], 0)) ((83, .aload_n 0, 1, 0, 0, (0), (0), [], 0)))) (cond (Nat.ble 79 pc) (cond (Nat.ble 80 pc) ((80, .if_icmp .ge 39, 3, 119, 0, (0), (0), [], 0)) ((79, .iconst 4, 1, 0, 0, (4), (0), [], 0))) (cond (Nat.ble 77 pc) ((77, .iload 4, 2, 4, 0, (0), (0), [], 0)) ((75, .istore 4, 2, 4, 0, (0), (0), [], 0))))) (cond (Nat.ble 67 pc) (cond (Nat.ble 71 pc) (cond (Nat.ble 74 pc) ((74, .iconst 0, 1, 0, 0, (0), (0), [], 0)) ((71, .putfield 66, 3, 2, 6, (0), (0), [], 274))) (cond (Nat.ble 68 pc) ((68, .getfield 63, 3, 0, 4, (1), (0), [], 324)) ((67, .aload_n 1, 1, 1, 0, (0), (0), [], 0)))) (cond (Nat.ble 63 pc) (cond (Nat.ble 66 pc) ((66, .aload_n 0, 1, 0, 0, (0), (0), [], 0)) ((63, .invokevirtual 50, 3, 8, 2, (0), (0), [], 1009))) ((60, .getfield 60, 3, 3, 5, (1), (0), [], 145)))))) (cond (Nat.ble 27 pc) (cond (Nat.ble 44 pc) (cond (Nat.ble 52 pc) (cond (Nat.ble 56 pc) (cond (Nat.ble 59 pc) ((59, .aaload, 1, 0, 0, (0), (0), [], 0)) ((56, .getfield 35, 3, 2, 4, (0), (0), [], 272))) (cond (Nat.ble 55 pc) ((55, .aload_n 0, 1, 0, 0, (0), (0), [], 0)) ((52, .getfield 54, 3, 6, 0, (1), (0), [], 162)))) (cond (Nat.ble 48 pc) (cond (Nat.ble 49 pc) ((49, .getfield 25, 3, 2, 0, (0), (0), [], 266)) ((48, .aload_n 0, 1, 0, 0, (0), (0), [], 0))) (cond (Nat.ble 45 pc) ((45, .getfield 12, 3, 2, 1, (0), (0), [], 267)) ((44, .aload_n 0, 1, 0, 0, (0), (0), [], 0))))) (cond (Nat.ble 34 pc) (cond (Nat.ble 38 pc) (cond (Nat.ble 41 pc) ((41, .invokevirtual 50, 3, 8, 2, (0), (0), [], 1009)) ((38, .getfield 49, 3, 0, 8, (1), (0), [], 334))) (cond (Nat.ble 37 pc) ((37, .aload_n 1, 1, 1, 0, (0), (0), [], 0)) ((34, .getfield 12, 3, 2, 1, (0), (0), [], 267)))) (cond (Nat.ble 30 pc) (cond (Nat.ble 33 pc) ((33, .aload_n 0, 1, 0, 0, (0), (0), [], 0)) ((30, .invokevirtual 46, 3, 6, 1, (0), (0), [], 1008))) ((27, .getfield 12, 3, 2, 1, (0), (0), [], 267))))) (cond (Nat.ble 13 pc) (cond (Nat.ble 21 pc) (cond (Nat.ble 23 pc) (cond (Nat.ble 26 pc) ((26, .aload_n 0, 1, 0, 0, (0), (0), [], 0)) ((23, .putfield 43, 3, 2, 8, (0), (0), [], 276))) (cond (Nat.ble 22 pc) ((22, .iload_n 3, 1, 3, 0, (0), (0), [], 0)) ((21, .aload_n 0, 1, 0, 0, (0), (0), [], 0)))) (cond (Nat.ble 15 pc) (cond (Nat.ble 18 pc) ((18, .putfield 42, 3, 2, 7, (0), (0), [], 275)) ((15, .getfield 39, 3, 0, 3, (1), (0), [], 322))) (cond (Nat.ble 14 pc) ((14, .aload_n 1, 1, 1, 0, (0), (0), [], 0)) ((13, .aload_n 0, 1, 0, 0, (0), (0), [], 0))))) (cond (Nat.ble 5 pc) (cond (Nat.ble 9 pc) (cond (Nat.ble 10 pc) ((10, .putfield 36, 3, 2, 5, (0), (0), [], 273)) ((9, .iload_n 2, 1, 2, 0, (0), (0), [], 0))) (cond (Nat.ble 8 pc) ((8, .aload_n 0, 1, 0, 0, (0), (0), [], 0)) ((5, .putfield 35, 3, 2, 4, (0), (0), [], 272)))) (cond (Nat.ble 1 pc) (cond (Nat.ble 2 pc) ((2, .getfield 29, 3, 0, 0, (1), (0), [], 316)) ((1, .aload_n 1, 1, 1, 0, (0), (0), [], 0))) ((0, .aload_n 0, 1, 0, 0, (0), (0), [], 0))))))
def pg_12 (pc : Nat) : RI := cond (Nat.ble 27 pc) (cond (Nat.ble 43 pc) (cond (Nat.ble 49 pc) (cond (Nat.ble 53 pc) (cond (Nat.ble 56 pc) (cond (Nat.ble 59 pc) ((59, .return_, 1, 0, 0, (0), (0), [], 0)) ((56, .goto (-44), 3, 12, 0, (0), (0), [], 0))) ((53, .iinc 2 1, 3, 2, 0, (1), (0), [], 0))) (cond (Nat.ble 50 pc) ((50, .putfield 77, 3, 2, 10, (0), (0), [], 279)) ((49, .iload_n 2, 1, 2, 0, (0), (0), [], 0)))) (cond (Nat.ble 45 pc) (cond (Nat.ble 48 pc) ((48, .aload_n 0, 1, 0, 0, (0), (0), [], 0)) ((45, .putfield 74, 3, 2, 9, (0), (0), [], 277))) (cond (Nat.ble 44 pc) ((44, .iload_n 3, 1, 3, 0, (0), (0), [], 0)) ((43, .aload_n 0, 1, 0, 0, (0), (0), [], 0))))) (cond (Nat.ble 35 pc) (cond (Nat.ble 37 pc) (cond (Nat.ble 40 pc) ((40, .if_icmp .le 13, 3, 53, 0, (0), (0), [], 0)) ((37, .getfield 74, 3, 2, 9, (0), (0), [], 277))) (cond (Nat.ble 36 pc) ((36, .aload_n 0, 1, 0, 0, (0), (0), [], 0)) ((35, .iload_n 3, 1, 3, 0, (0), (0), [], 0)))) (cond (Nat.ble 31 pc) (cond (Nat.ble 34 pc) ((34, .istore_n 3, 1, 3, 0, (0), (0), [], 0)) ((31, .invokevirtual 80, 3, 13, 5, (0), (0), [], 1015))) (cond (Nat.ble 30 pc) ((30, .iload_n 2, 1, 2, 0, (0), (0), [], 0)) ((27, .getfield 66, 3, 2, 6, (0), (0), [], 274)))))) (cond (Nat.ble 12 pc) (cond (Nat.ble 18 pc) (cond (Nat.ble 22 pc) (cond (Nat.ble 23 pc) (cond (Nat.ble 26 pc) ((26, .aload_n 0, 1, 0, 0, (0), (0), [], 0)) ((23, .getfield 36, 3, 2, 5, (0), (0), [], 273))) ((22, .aload_n 0, 1, 0, 0, (0), (0), [], 0))) (cond (Nat.ble 19 pc) ((19, .getfield 35, 3, 2, 4, (0), (0), [], 272)) ((18, .aload_n 0, 1, 0, 0, (0), (0), [], 0)))) (cond (Nat.ble 14 pc) (cond (Nat.ble 17 pc) ((17, .aload_n 0, 1, 0, 0, (0), (0), [], 0)) ((14, .if_icmp .gt 45, 3, 59, 0, (0), (0), [], 0))) (cond (Nat.ble 13 pc) ((13, .iload_n 1, 1, 1, 0, (0), (0), [], 0)) ((12, .iload_n 2, 1, 2, 0, (0), (0), [], 0))))) (cond (Nat.ble 6 pc) (cond (Nat.ble 10 pc) (cond (Nat.ble 11 pc) ((11, .istore_n 2, 1, 2, 0, (0), (0), [], 0)) ((10, .iconst 1, 1, 0, 0, (1), (0), [], 0))) (cond (Nat.ble 7 pc) ((7, .putfield 77, 3, 2, 10, (0), (0), [], 279)) ((6, .iconst 0, 1, 0, 0, (0), (0), [], 0)))) (cond (Nat.ble 2 pc) (cond (Nat.ble 5 pc) ((5, .aload_n 0, 1, 0, 0, (0), (0), [], 0)) ((2, .putfield 74, 3, 2, 9, (0), (0), [], 277))) (cond (Nat.ble 1 pc) ((1, .iconst (-1), 1, 0, 0, (-1), (0), [], 0)) ((0, .aload_n 0, 1, 0, 0, (0), (0), [], 0))))))
def pg_13 (pc : Nat) : RI := cond (Nat.ble 37 pc) (cond (Nat.ble 53 pc) (cond (Nat.ble 63 pc) (cond (Nat.ble 71 pc) (cond (Nat.ble 74 pc) (cond (Nat.ble 76 pc) ((76, .ireturn, 1, 0, 0, (0), (0), [], 0)) ((74, .iload 5, 2, 5, 0, (0), (0), [], 0))) ((71, .goto (-58), 3, 13, 0, (0), (0), [], 0))) (cond (Nat.ble 66 pc) (cond (Nat.ble 68 pc) ((68, .iinc 6 1, 3, 6, 0, (1), (0), [], 0)) ((66, .istore 5, 2, 5, 0, (0), (0), [], 0))) ((63, .invokestatic 94, 3, 1001, 2, (0), (0), [], 1034)))) (cond (Nat.ble 58 pc) (cond (Nat.ble 59 pc) (cond (Nat.ble 60 pc) ((60, .invokevirtual 80, 3, 13, 5, (0), (0), [], 1015)) ((59, .isub, 1, 0, 0, (0), (0), [], 0))) ((58, .iconst 1, 1, 0, 0, (1), (0), [], 0))) (cond (Nat.ble 56 pc) ((56, .iload 4, 2, 4, 0, (0), (0), [], 0)) ((53, .invokevirtual 91, 3, 15, 4, (0), (0), [], 1025))))) (cond (Nat.ble 46 pc) (cond (Nat.ble 49 pc) (cond (Nat.ble 50 pc) (cond (Nat.ble 52 pc) ((52, .iload_n 3, 1, 3, 0, (0), (0), [], 0)) ((50, .iload 6, 2, 6, 0, (0), (0), [], 0))) ((49, .iload_n 1, 1, 1, 0, (0), (0), [], 0))) (cond (Nat.ble 48 pc) ((48, .aload_n 0, 1, 0, 0, (0), (0), [], 0)) ((46, .iload 7, 2, 7, 0, (0), (0), [], 0)))) (cond (Nat.ble 41 pc) (cond (Nat.ble 43 pc) (cond (Nat.ble 44 pc) ((44, .iload 6, 2, 6, 0, (0), (0), [], 0)) ((43, .aload_n 0, 1, 0, 0, (0), (0), [], 0))) ((41, .iload 5, 2, 5, 0, (0), (0), [], 0))) (cond (Nat.ble 38 pc) ((38, .if_icmp .eq 30, 3, 68, 0, (0), (0), [], 0)) ((37, .iconst (-1), 1, 0, 0, (-1), (0), [], 0)))))) (cond (Nat.ble 16 pc) (cond (Nat.ble 27 pc) (cond (Nat.ble 30 pc) (cond (Nat.ble 33 pc) (cond (Nat.ble 35 pc) ((35, .iload 7, 2, 7, 0, (0), (0), [], 0)) ((33, .istore 7, 2, 7, 0, (0), (0), [], 0))) ((30, .invokevirtual 87, 3, 14, 4, (0), (0), [], 1019))) (cond (Nat.ble 29 pc) ((29, .iload_n 2, 1, 2, 0, (0), (0), [], 0)) ((27, .iload 6, 2, 6, 0, (0), (0), [], 0)))) (cond (Nat.ble 22 pc) (cond (Nat.ble 25 pc) (cond (Nat.ble 26 pc) ((26, .iload_n 1, 1, 1, 0, (0), (0), [], 0)) ((25, .aload_n 0, 1, 0, 0, (0), (0), [], 0))) ((22, .if_icmp .ge 52, 3, 74, 0, (0), (0), [], 0))) (cond (Nat.ble 19 pc) ((19, .getfield 84, 3, 6, 2, (1), (0), [], 168)) ((16, .getfield 25, 3, 2, 0, (0), (0), [], 266))))) (cond (Nat.ble 8 pc) (cond (Nat.ble 11 pc) (cond (Nat.ble 13 pc) (cond (Nat.ble 15 pc) ((15, .aload_n 0, 1, 0, 0, (0), (0), [], 0)) ((13, .iload 6, 2, 6, 0, (0), (0), [], 0))) ((11, .istore 6, 2, 6, 0, (0), (0), [], 0))) (cond (Nat.ble 10 pc) ((10, .iconst 0, 1, 0, 0, (0), (0), [], 0)) ((8, .istore 5, 2, 5, 0, (0), (0), [], 0)))) (cond (Nat.ble 5 pc) (cond (Nat.ble 6 pc) (cond (Nat.ble 7 pc) ((7, .iconst (-1), 1, 0, 0, (-1), (0), [], 0)) ((6, .ireturn, 1, 0, 0, (0), (0), [], 0))) ((5, .iload_n 3, 1, 3, 0, (0), (0), [], 0))) (cond (Nat.ble 2 pc) ((2, .ifCond .gt 5, 3, 7, 0, (0), (0), [], 0)) ((0, .iload 4, 2, 4, 0, (0), (0), [], 0))))))
def pg_14 (pc : Nat) : RI := cond (Nat.ble 28 pc) (cond (Nat.ble 41 pc) (cond (Nat.ble 51 pc) (cond (Nat.ble 54 pc) (cond (Nat.ble 55 pc) ((55, .ireturn, 1, 0, 0, (0), (0), [], 0)) ((54, .iadd, 1, 0, 0, (0), (0), [], 0))) (cond (Nat.ble 52 pc) ((52, .iload 4, 2, 4, 0, (0), (0), [], 0)) ((51, .iload_n 3, 1, 3, 0, (0), (0), [], 0)))) (cond (Nat.ble 47 pc) (cond (Nat.ble 48 pc) ((48, .goto 7, 3, 55, 0, (0), (0), [], 0)) ((47, .iconst (-1), 1, 0, 0, (-1), (0), [], 0))) (cond (Nat.ble 44 pc) ((44, .if_icmp .le 7, 3, 51, 0, (0), (0), [], 0)) ((41, .getfield 43, 3, 2, 8, (0), (0), [], 276))))) (cond (Nat.ble 36 pc) (cond (Nat.ble 39 pc) (cond (Nat.ble 40 pc) ((40, .aload_n 0, 1, 0, 0, (0), (0), [], 0)) ((39, .iadd, 1, 0, 0, (0), (0), [], 0))) (cond (Nat.ble 37 pc) ((37, .iload 4, 2, 4, 0, (0), (0), [], 0)) ((36, .iload_n 3, 1, 3, 0, (0), (0), [], 0)))) (cond (Nat.ble 32 pc) (cond (Nat.ble 33 pc) ((33, .if_icmp .eq 14, 3, 47, 0, (0), (0), [], 0)) ((32, .iconst (-1), 1, 0, 0, (-1), (0), [], 0))) (cond (Nat.ble 30 pc) ((30, .iload 4, 2, 4, 0, (0), (0), [], 0)) ((28, .istore 4, 2, 4, 0, (0), (0), [], 0)))))) (cond (Nat.ble 16 pc) (cond (Nat.ble 22 pc) (cond (Nat.ble 24 pc) (cond (Nat.ble 25 pc) ((25, .invokevirtual 113, 3, 44, 4, (0), (0), [], 1024)) ((24, .iload_n 3, 1, 3, 0, (0), (0), [], 0))) (cond (Nat.ble 23 pc) ((23, .iload_n 2, 1, 2, 0, (0), (0), [], 0)) ((22, .iload_n 1, 1, 1, 0, (0), (0), [], 0)))) (cond (Nat.ble 18 pc) (cond (Nat.ble 19 pc) ((19, .getfield 25, 3, 2, 0, (0), (0), [], 266)) ((18, .aload_n 0, 1, 0, 0, (0), (0), [], 0))) (cond (Nat.ble 17 pc) ((17, .ireturn, 1, 0, 0, (0), (0), [], 0)) ((16, .iconst (-1), 1, 0, 0, (-1), (0), [], 0))))) (cond (Nat.ble 6 pc) (cond (Nat.ble 10 pc) (cond (Nat.ble 13 pc) ((13, .ifCond .ne 5, 3, 18, 0, (0), (0), [], 0)) ((10, .invokevirtual 109, 3, 9, 2, (0), (0), [], 1023))) (cond (Nat.ble 9 pc) ((9, .iload_n 2, 1, 2, 0, (0), (0), [], 0)) ((6, .getfield 12, 3, 2, 1, (0), (0), [], 267)))) (cond (Nat.ble 2 pc) (cond (Nat.ble 5 pc) ((5, .aload_n 0, 1, 0, 0, (0), (0), [], 0)) ((2, .if_icmp .eq 14, 3, 16, 0, (0), (0), [], 0))) (cond (Nat.ble 1 pc) ((1, .iload_n 2, 1, 2, 0, (0), (0), [], 0)) ((0, .iload_n 1, 1, 1, 0, (0), (0), [], 0))))))
def pg_15 (pc : Nat) : RI := cond (Nat.ble 16 pc) (cond (Nat.ble 26 pc) (cond (Nat.ble 31 pc) (cond (Nat.ble 34 pc) (cond (Nat.ble 36 pc) ((36, .ireturn, 1, 0, 0, (0), (0), [], 0)) ((34, .iload 4, 2, 4, 0, (0), (0), [], 0))) ((31, .goto (-25), 3, 6, 0, (0), (0), [], 0))) (cond (Nat.ble 28 pc) ((28, .iinc 5 1, 3, 5, 0, (1), (0), [], 0)) ((26, .istore 4, 2, 4, 0, (0), (0), [], 0)))) (cond (Nat.ble 19 pc) (cond (Nat.ble 20 pc) (cond (Nat.ble 23 pc) ((23, .invokestatic 94, 3, 1001, 2, (0), (0), [], 1034)) ((20, .invokevirtual 99, 3, 16, 5, (0), (0), [], 1029))) ((19, .iload_n 3, 1, 3, 0, (0), (0), [], 0))) (cond (Nat.ble 17 pc) ((17, .iload 5, 2, 5, 0, (0), (0), [], 0)) ((16, .iload_n 2, 1, 2, 0, (0), (0), [], 0))))) (cond (Nat.ble 8 pc) (cond (Nat.ble 12 pc) (cond (Nat.ble 14 pc) (cond (Nat.ble 15 pc) ((15, .iload_n 1, 1, 1, 0, (0), (0), [], 0)) ((14, .aload_n 0, 1, 0, 0, (0), (0), [], 0))) ((12, .iload 4, 2, 4, 0, (0), (0), [], 0))) (cond (Nat.ble 9 pc) ((9, .if_icmp .ge 25, 3, 34, 0, (0), (0), [], 0)) ((8, .iconst 4, 1, 0, 0, (4), (0), [], 0)))) (cond (Nat.ble 3 pc) (cond (Nat.ble 4 pc) (cond (Nat.ble 6 pc) ((6, .iload 5, 2, 5, 0, (0), (0), [], 0)) ((4, .istore 5, 2, 5, 0, (0), (0), [], 0))) ((3, .iconst 0, 1, 0, 0, (0), (0), [], 0))) (cond (Nat.ble 1 pc) ((1, .istore 4, 2, 4, 0, (0), (0), [], 0)) ((0, .iload_n 3, 1, 3, 0, (0), (0), [], 0)))))
def pg_16 (pc : Nat) : RI := cond (Nat.ble 29 pc) (cond (Nat.ble 44 pc) (cond (Nat.ble 52 pc) (cond (Nat.ble 55 pc) (cond (Nat.ble 56 pc) (cond (Nat.ble 57 pc) ((57, .ireturn, 1, 0, 0, (0), (0), [], 0)) ((56, .iadd, 1, 0, 0, (0), (0), [], 0))) ((55, .imul, 1, 0, 0, (0), (0), [], 0))) (cond (Nat.ble 54 pc) ((54, .isub, 1, 0, 0, (0), (0), [], 0)) ((52, .iload 5, 2, 5, 0, (0), (0), [], 0)))) (cond (Nat.ble 48 pc) (cond (Nat.ble 49 pc) ((49, .invokevirtual 70, 3, 10, 3, (0), (0), [], 1010)) ((48, .iload_n 3, 1, 3, 0, (0), (0), [], 0))) (cond (Nat.ble 47 pc) ((47, .iload_n 2, 1, 2, 0, (0), (0), [], 0)) ((44, .getfield 12, 3, 2, 1, (0), (0), [], 267))))) (cond (Nat.ble 37 pc) (cond (Nat.ble 40 pc) (cond (Nat.ble 43 pc) ((43, .aload_n 0, 1, 0, 0, (0), (0), [], 0)) ((40, .invokestatic 116, 3, 1002, 2, (0), (0), [], 1033))) (cond (Nat.ble 39 pc) ((39, .idiv, 1, 0, 0, (0), (0), [], 0)) ((37, .iload 5, 2, 5, 0, (0), (0), [], 0)))) (cond (Nat.ble 32 pc) (cond (Nat.ble 35 pc) ((35, .iload 4, 2, 4, 0, (0), (0), [], 0)) ((32, .getfield 42, 3, 2, 7, (0), (0), [], 275))) (cond (Nat.ble 31 pc) ((31, .aload_n 0, 1, 0, 0, (0), (0), [], 0)) ((29, .iload 4, 2, 4, 0, (0), (0), [], 0)))))) (cond (Nat.ble 13 pc) (cond (Nat.ble 19 pc) (cond (Nat.ble 23 pc) (cond (Nat.ble 26 pc) (cond (Nat.ble 28 pc) ((28, .ireturn, 1, 0, 0, (0), (0), [], 0)) ((26, .iload 4, 2, 4, 0, (0), (0), [], 0))) ((23, .ifCond .gt 6, 3, 29, 0, (0), (0), [], 0))) (cond (Nat.ble 21 pc) ((21, .iload 5, 2, 5, 0, (0), (0), [], 0)) ((19, .istore 5, 2, 5, 0, (0), (0), [], 0)))) (cond (Nat.ble 17 pc) (cond (Nat.ble 18 pc) ((18, .iadd, 1, 0, 0, (0), (0), [], 0)) ((17, .iconst 1, 1, 0, 0, (1), (0), [], 0))) (cond (Nat.ble 14 pc) ((14, .invokevirtual 70, 3, 10, 3, (0), (0), [], 1010)) ((13, .iload_n 3, 1, 3, 0, (0), (0), [], 0))))) (cond (Nat.ble 7 pc) (cond (Nat.ble 9 pc) (cond (Nat.ble 12 pc) ((12, .iload_n 1, 1, 1, 0, (0), (0), [], 0)) ((9, .getfield 12, 3, 2, 1, (0), (0), [], 267))) (cond (Nat.ble 8 pc) ((8, .aload_n 0, 1, 0, 0, (0), (0), [], 0)) ((7, .ireturn, 1, 0, 0, (0), (0), [], 0)))) (cond (Nat.ble 2 pc) (cond (Nat.ble 5 pc) ((5, .iload 4, 2, 4, 0, (0), (0), [], 0)) ((2, .if_icmp .lt 6, 3, 8, 0, (0), (0), [], 0))) (cond (Nat.ble 1 pc) ((1, .iconst 4, 1, 0, 0, (4), (0), [], 0)) ((0, .iload_n 3, 1, 3, 0, (0), (0), [], 0))))))
def pg_17 (pc : Nat) : RI := cond (Nat.ble 46 pc) (cond (Nat.ble 66 pc) (cond (Nat.ble 79 pc) (cond (Nat.ble 84 pc) (cond (Nat.ble 88 pc) (cond (Nat.ble 91 pc) ((91, .return_, 1, 0, 0, (0), (0), [], 0)) ((88, .goto (-68), 3, 20, 0, (0), (0), [], 0))) (cond (Nat.ble 85 pc) ((85, .iinc 3 1, 3, 3, 0, (1), (0), [], 0)) ((84, .istore_n 1, 1, 1, 0, (0), (0), [], 0)))) (cond (Nat.ble 82 pc) (cond (Nat.ble 83 pc) ((83, .iaload, 1, 0, 0, (0), (0), [], 0)) ((82, .iload_n 3, 1, 3, 0, (0), (0), [], 0))) ((79, .getfield 22, 3, 2, 3, (0), (0), [], 270)))) (cond (Nat.ble 69 pc) (cond (Nat.ble 75 pc) (cond (Nat.ble 78 pc) ((78, .aload_n 0, 1, 0, 0, (0), (0), [], 0)) ((75, .putfield 102, 3, 2, 11, (0), (0), [], 281))) (cond (Nat.ble 72 pc) ((72, .invokevirtual 87, 3, 14, 4, (0), (0), [], 1019)) ((69, .getfield 102, 3, 2, 11, (0), (0), [], 281)))) (cond (Nat.ble 67 pc) (cond (Nat.ble 68 pc) ((68, .aload_n 0, 1, 0, 0, (0), (0), [], 0)) ((67, .iaload, 1, 0, 0, (0), (0), [], 0))) ((66, .iload_n 3, 1, 3, 0, (0), (0), [], 0))))) (cond (Nat.ble 55 pc) (cond (Nat.ble 60 pc) (cond (Nat.ble 62 pc) (cond (Nat.ble 63 pc) ((63, .getfield 22, 3, 2, 3, (0), (0), [], 270)) ((62, .aload_n 0, 1, 0, 0, (0), (0), [], 0))) (cond (Nat.ble 61 pc) ((61, .iload_n 1, 1, 1, 0, (0), (0), [], 0)) ((60, .aload_n 0, 1, 0, 0, (0), (0), [], 0)))) (cond (Nat.ble 58 pc) (cond (Nat.ble 59 pc) ((59, .aload_n 0, 1, 0, 0, (0), (0), [], 0)) ((58, .istore_n 2, 1, 2, 0, (0), (0), [], 0))) ((55, .invokevirtual 99, 3, 16, 5, (0), (0), [], 1029)))) (cond (Nat.ble 49 pc) (cond (Nat.ble 53 pc) (cond (Nat.ble 54 pc) ((54, .iload_n 2, 1, 2, 0, (0), (0), [], 0)) ((53, .iaload, 1, 0, 0, (0), (0), [], 0))) (cond (Nat.ble 52 pc) ((52, .iload_n 3, 1, 3, 0, (0), (0), [], 0)) ((49, .getfield 18, 3, 2, 2, (0), (0), [], 268)))) (cond (Nat.ble 47 pc) (cond (Nat.ble 48 pc) ((48, .aload_n 0, 1, 0, 0, (0), (0), [], 0)) ((47, .iaload, 1, 0, 0, (0), (0), [], 0))) ((46, .iload_n 3, 1, 3, 0, (0), (0), [], 0)))))) (cond (Nat.ble 22 pc) (cond (Nat.ble 35 pc) (cond (Nat.ble 40 pc) (cond (Nat.ble 42 pc) (cond (Nat.ble 43 pc) ((43, .getfield 22, 3, 2, 3, (0), (0), [], 270)) ((42, .aload_n 0, 1, 0, 0, (0), (0), [], 0))) (cond (Nat.ble 41 pc) ((41, .iload_n 1, 1, 1, 0, (0), (0), [], 0)) ((40, .aload_n 0, 1, 0, 0, (0), (0), [], 0)))) (cond (Nat.ble 36 pc) (cond (Nat.ble 37 pc) ((37, .invokevirtual 105, 3, 18, 4, (0), (0), [], 1039)) ((36, .iload_n 2, 1, 2, 0, (0), (0), [], 0))) ((35, .iload_n 1, 1, 1, 0, (0), (0), [], 0)))) (cond (Nat.ble 29 pc) (cond (Nat.ble 33 pc) (cond (Nat.ble 34 pc) ((34, .iload_n 3, 1, 3, 0, (0), (0), [], 0)) ((33, .aload_n 0, 1, 0, 0, (0), (0), [], 0))) (cond (Nat.ble 30 pc) ((30, .if_icmp .ge 61, 3, 91, 0, (0), (0), [], 0)) ((29, .iconst 3, 1, 0, 0, (3), (0), [], 0)))) (cond (Nat.ble 25 pc) (cond (Nat.ble 28 pc) ((28, .iload_n 3, 1, 3, 0, (0), (0), [], 0)) ((25, .if_icmp .ge 66, 3, 91, 0, (0), (0), [], 0))) ((22, .getfield 77, 3, 2, 10, (0), (0), [], 279))))) (cond (Nat.ble 11 pc) (cond (Nat.ble 18 pc) (cond (Nat.ble 20 pc) (cond (Nat.ble 21 pc) ((21, .aload_n 0, 1, 0, 0, (0), (0), [], 0)) ((20, .iload_n 3, 1, 3, 0, (0), (0), [], 0))) (cond (Nat.ble 19 pc) ((19, .istore_n 3, 1, 3, 0, (0), (0), [], 0)) ((18, .iconst 0, 1, 0, 0, (0), (0), [], 0)))) (cond (Nat.ble 12 pc) (cond (Nat.ble 15 pc) ((15, .putfield 102, 3, 2, 11, (0), (0), [], 281)) ((12, .getfield 36, 3, 2, 5, (0), (0), [], 273))) ((11, .aload_n 0, 1, 0, 0, (0), (0), [], 0)))) (cond (Nat.ble 5 pc) (cond (Nat.ble 9 pc) (cond (Nat.ble 10 pc) ((10, .aload_n 0, 1, 0, 0, (0), (0), [], 0)) ((9, .istore_n 2, 1, 2, 0, (0), (0), [], 0))) (cond (Nat.ble 6 pc) ((6, .getfield 66, 3, 2, 6, (0), (0), [], 274)) ((5, .aload_n 0, 1, 0, 0, (0), (0), [], 0)))) (cond (Nat.ble 1 pc) (cond (Nat.ble 4 pc) ((4, .istore_n 1, 1, 1, 0, (0), (0), [], 0)) ((1, .getfield 35, 3, 2, 4, (0), (0), [], 272))) ((0, .aload_n 0, 1, 0, 0, (0), (0), [], 0))))))
def pg_18 (pc : Nat) : RI := cond (Nat.ble 52 pc) (cond (Nat.ble 77 pc) (cond (Nat.ble 89 pc) (cond (Nat.ble 96 pc) (cond (Nat.ble 102 pc) (cond (Nat.ble 105 pc) ((105, .return_, 1, 0, 0, (0), (0), [], 0)) ((102, .goto (-99), 3, 3, 0, (0), (0), [], 0))) (cond (Nat.ble 99 pc) ((99, .iinc 4 1, 3, 4, 0, (1), (0), [], 0)) ((96, .goto (-84), 3, 12, 0, (0), (0), [], 0)))) (cond (Nat.ble 92 pc) (cond (Nat.ble 93 pc) ((93, .iinc 5 1, 3, 5, 0, (1), (0), [], 0)) ((92, .return_, 1, 0, 0, (0), (0), [], 0))) (cond (Nat.ble 91 pc) ((91, .iastore, 1, 0, 0, (0), (0), [], 0)) ((89, .iload 5, 2, 5, 0, (0), (0), [], 0))))) (cond (Nat.ble 83 pc) (cond (Nat.ble 85 pc) (cond (Nat.ble 88 pc) ((88, .iload_n 1, 1, 1, 0, (0), (0), [], 0)) ((85, .getfield 22, 3, 2, 3, (0), (0), [], 270))) (cond (Nat.ble 84 pc) ((84, .aload_n 0, 1, 0, 0, (0), (0), [], 0)) ((83, .iastore, 1, 0, 0, (0), (0), [], 0)))) (cond (Nat.ble 80 pc) (cond (Nat.ble 81 pc) ((81, .iload 4, 2, 4, 0, (0), (0), [], 0)) ((80, .iload_n 1, 1, 1, 0, (0), (0), [], 0))) ((77, .getfield 18, 3, 2, 2, (0), (0), [], 268))))) (cond (Nat.ble 64 pc) (cond (Nat.ble 69 pc) (cond (Nat.ble 73 pc) (cond (Nat.ble 76 pc) ((76, .aload_n 0, 1, 0, 0, (0), (0), [], 0)) ((73, .if_icmp .ne 20, 3, 93, 0, (0), (0), [], 0))) (cond (Nat.ble 70 pc) ((70, .getfield 74, 3, 2, 9, (0), (0), [], 277)) ((69, .aload_n 0, 1, 0, 0, (0), (0), [], 0)))) (cond (Nat.ble 65 pc) (cond (Nat.ble 66 pc) ((66, .invokevirtual 80, 3, 13, 5, (0), (0), [], 1015)) ((65, .isub, 1, 0, 0, (0), (0), [], 0))) ((64, .iload_n 1, 1, 1, 0, (0), (0), [], 0)))) (cond (Nat.ble 58 pc) (cond (Nat.ble 62 pc) (cond (Nat.ble 63 pc) ((63, .isub, 1, 0, 0, (0), (0), [], 0)) ((62, .iconst 1, 1, 0, 0, (1), (0), [], 0))) (cond (Nat.ble 59 pc) ((59, .getfield 77, 3, 2, 10, (0), (0), [], 279)) ((58, .aload_n 0, 1, 0, 0, (0), (0), [], 0)))) (cond (Nat.ble 54 pc) (cond (Nat.ble 55 pc) ((55, .invokevirtual 99, 3, 16, 5, (0), (0), [], 1029)) ((54, .iload_n 3, 1, 3, 0, (0), (0), [], 0))) ((52, .iload 4, 2, 4, 0, (0), (0), [], 0)))))) (cond (Nat.ble 26 pc) (cond (Nat.ble 40 pc) (cond (Nat.ble 46 pc) (cond (Nat.ble 49 pc) (cond (Nat.ble 50 pc) ((50, .iload 5, 2, 5, 0, (0), (0), [], 0)) ((49, .iload_n 2, 1, 2, 0, (0), (0), [], 0))) (cond (Nat.ble 48 pc) ((48, .aload_n 0, 1, 0, 0, (0), (0), [], 0)) ((46, .iload 6, 2, 6, 0, (0), (0), [], 0)))) (cond (Nat.ble 43 pc) (cond (Nat.ble 44 pc) ((44, .iload 5, 2, 5, 0, (0), (0), [], 0)) ((43, .aload_n 0, 1, 0, 0, (0), (0), [], 0))) ((40, .if_icmp .eq 53, 3, 93, 0, (0), (0), [], 0)))) (cond (Nat.ble 32 pc) (cond (Nat.ble 37 pc) (cond (Nat.ble 39 pc) ((39, .iconst (-1), 1, 0, 0, (-1), (0), [], 0)) ((37, .iload 6, 2, 6, 0, (0), (0), [], 0))) (cond (Nat.ble 35 pc) ((35, .istore 6, 2, 6, 0, (0), (0), [], 0)) ((32, .invokevirtual 87, 3, 14, 4, (0), (0), [], 1019)))) (cond (Nat.ble 28 pc) (cond (Nat.ble 29 pc) ((29, .getfield 102, 3, 2, 11, (0), (0), [], 281)) ((28, .aload_n 0, 1, 0, 0, (0), (0), [], 0))) ((26, .iload 5, 2, 5, 0, (0), (0), [], 0))))) (cond (Nat.ble 12 pc) (cond (Nat.ble 18 pc) (cond (Nat.ble 24 pc) (cond (Nat.ble 25 pc) ((25, .iload_n 2, 1, 2, 0, (0), (0), [], 0)) ((24, .aload_n 0, 1, 0, 0, (0), (0), [], 0))) (cond (Nat.ble 21 pc) ((21, .if_icmp .ge 78, 3, 99, 0, (0), (0), [], 0)) ((18, .getfield 84, 3, 6, 2, (1), (0), [], 168)))) (cond (Nat.ble 14 pc) (cond (Nat.ble 15 pc) ((15, .getfield 25, 3, 2, 0, (0), (0), [], 266)) ((14, .aload_n 0, 1, 0, 0, (0), (0), [], 0))) ((12, .iload 5, 2, 5, 0, (0), (0), [], 0)))) (cond (Nat.ble 5 pc) (cond (Nat.ble 9 pc) (cond (Nat.ble 10 pc) ((10, .istore 5, 2, 5, 0, (0), (0), [], 0)) ((9, .iconst 0, 1, 0, 0, (0), (0), [], 0))) (cond (Nat.ble 6 pc) ((6, .if_icmp .gt 99, 3, 105, 0, (0), (0), [], 0)) ((5, .iconst 4, 1, 0, 0, (4), (0), [], 0)))) (cond (Nat.ble 1 pc) (cond (Nat.ble 3 pc) ((3, .iload 4, 2, 4, 0, (0), (0), [], 0)) ((1, .istore 4, 2, 4, 0, (0), (0), [], 0))) ((0, .iconst 0, 1, 0, 0, (0), (0), [], 0))))))
def pg_19 (pc : Nat) : RI := cond (Nat.ble 13 pc) (cond (Nat.ble 20 pc) (cond (Nat.ble 23 pc) (cond (Nat.ble 24 pc) (cond (Nat.ble 27 pc) ((27, .ireturn, 1, 0, 0, (0), (0), [], 0)) ((24, .invokestatic 28, 3, 1001, 2, (0), (0), [], 729))) ((23, .isub, 1, 0, 0, (0), (0), [], 0))) (cond (Nat.ble 22 pc) ((22, .idiv, 1, 0, 0, (0), (0), [], 0)) ((20, .bipush 10, 2, 0, 0, (10), (0), [], 0)))) (cond (Nat.ble 17 pc) (cond (Nat.ble 18 pc) (cond (Nat.ble 19 pc) ((19, .imul, 1, 0, 0, (0), (0), [], 0)) ((18, .iaload, 1, 0, 0, (0), (0), [], 0))) ((17, .iload_n 1, 1, 1, 0, (0), (0), [], 0))) (cond (Nat.ble 14 pc) ((14, .getfield 18, 3, 3, 4, (0), (0), [], 142)) ((13, .aload_n 0, 1, 0, 0, (0), (0), [], 0))))) (cond (Nat.ble 6 pc) (cond (Nat.ble 8 pc) (cond (Nat.ble 11 pc) (cond (Nat.ble 12 pc) ((12, .iaload, 1, 0, 0, (0), (0), [], 0)) ((11, .iload_n 1, 1, 1, 0, (0), (0), [], 0))) ((8, .getfield 15, 3, 3, 3, (0), (0), [], 140))) (cond (Nat.ble 7 pc) ((7, .aload_n 0, 1, 0, 0, (0), (0), [], 0)) ((6, .iaload, 1, 0, 0, (0), (0), [], 0)))) (cond (Nat.ble 2 pc) (cond (Nat.ble 5 pc) ((5, .iload_n 1, 1, 1, 0, (0), (0), [], 0)) ((2, .getfield 9, 3, 3, 2, (0), (0), [], 137))) (cond (Nat.ble 1 pc) ((1, .aload_n 0, 1, 0, 0, (0), (0), [], 0)) ((0, .iconst 1, 1, 0, 0, (1), (0), [], 0)))))
def pg_20 (pc : Nat) : RI := cond (Nat.ble 30 pc) (cond (Nat.ble 46 pc) (cond (Nat.ble 56 pc) (cond (Nat.ble 60 pc) (cond (Nat.ble 61 pc) (cond (Nat.ble 64 pc) ((64, .ireturn, 1, 0, 0, (0), (0), [], 0)) ((61, .getfield 29, 3, 4, 5, (0), (0), [], 228))) ((60, .aload_n 0, 1, 0, 0, (0), (0), [], 0))) (cond (Nat.ble 57 pc) ((57, .invokevirtual 44, 3, 23, 1, (0), (0), [], 586)) ((56, .aload_n 0, 1, 0, 0, (0), (0), [], 0)))) (cond (Nat.ble 50 pc) (cond (Nat.ble 53 pc) ((53, .ifCond .eq 7, 3, 60, 0, (0), (0), [], 0)) ((50, .getfield 41, 3, 9, 3, (1), (0), [], 194))) (cond (Nat.ble 47 pc) ((47, .getfield 18, 3, 4, 0, (0), (0), [], 220)) ((46, .aload_n 0, 1, 0, 0, (0), (0), [], 0))))) (cond (Nat.ble 38 pc) (cond (Nat.ble 42 pc) (cond (Nat.ble 43 pc) ((43, .invokevirtual 37, 3, 21, 3, (0), (0), [], 577)) ((42, .iconst 2, 1, 0, 0, (2), (0), [], 0))) (cond (Nat.ble 39 pc) ((39, .sipush 130, 3, 0, 0, (130), (0), [], 0)) ((38, .aload_n 0, 1, 0, 0, (0), (0), [], 0)))) (cond (Nat.ble 34 pc) (cond (Nat.ble 35 pc) ((35, .invokevirtual 37, 3, 21, 3, (0), (0), [], 577)) ((34, .iconst 1, 1, 0, 0, (1), (0), [], 0))) (cond (Nat.ble 31 pc) ((31, .sipush 129, 3, 0, 0, (129), (0), [], 0)) ((30, .aload_n 0, 1, 0, 0, (0), (0), [], 0)))))) (cond (Nat.ble 12 pc) (cond (Nat.ble 22 pc) (cond (Nat.ble 26 pc) (cond (Nat.ble 27 pc) ((27, .invokevirtual 37, 3, 21, 3, (0), (0), [], 577)) ((26, .iconst 0, 1, 0, 0, (0), (0), [], 0))) (cond (Nat.ble 23 pc) ((23, .sipush 128, 3, 0, 0, (128), (0), [], 0)) ((22, .aload_n 0, 1, 0, 0, (0), (0), [], 0)))) (cond (Nat.ble 16 pc) (cond (Nat.ble 19 pc) ((19, .invokevirtual 32, 3, 54, 1, (0), (0), [], 487)) ((16, .getfield 18, 3, 4, 0, (0), (0), [], 220))) (cond (Nat.ble 15 pc) ((15, .aload_n 0, 1, 0, 0, (0), (0), [], 0)) ((12, .putfield 29, 3, 4, 5, (0), (0), [], 228))))) (cond (Nat.ble 6 pc) (cond (Nat.ble 10 pc) (cond (Nat.ble 11 pc) ((11, .iconst (-1), 1, 0, 0, (-1), (0), [], 0)) ((10, .aload_n 0, 1, 0, 0, (0), (0), [], 0))) (cond (Nat.ble 7 pc) ((7, .putfield 26, 3, 4, 4, (0), (0), [], 227)) ((6, .iconst 0, 1, 0, 0, (0), (0), [], 0)))) (cond (Nat.ble 2 pc) (cond (Nat.ble 5 pc) ((5, .aload_n 0, 1, 0, 0, (0), (0), [], 0)) ((2, .putfield 22, 3, 4, 3, (0), (0), [], 225))) (cond (Nat.ble 1 pc) ((1, .iconst 0, 1, 0, 0, (0), (0), [], 0)) ((0, .aload_n 0, 1, 0, 0, (0), (0), [], 0))))))
def pg_21 (pc : Nat) : RI := cond (Nat.ble 12 pc) (cond (Nat.ble 20 pc) (cond (Nat.ble 24 pc) (cond (Nat.ble 25 pc) ((25, .return_, 1, 0, 0, (0), (0), [], 0)) ((24, .iastore, 1, 0, 0, (0), (0), [], 0))) (cond (Nat.ble 21 pc) ((21, .getfield 22, 3, 4, 3, (0), (0), [], 225)) ((20, .aload_n 0, 1, 0, 0, (0), (0), [], 0)))) (cond (Nat.ble 16 pc) (cond (Nat.ble 19 pc) ((19, .iload_n 2, 1, 2, 0, (0), (0), [], 0)) ((16, .getfield 15, 3, 4, 2, (0), (0), [], 223))) (cond (Nat.ble 15 pc) ((15, .aload_n 0, 1, 0, 0, (0), (0), [], 0)) ((12, .invokevirtual 47, 3, 22, 2, (0), (0), [], 581))))) (cond (Nat.ble 5 pc) (cond (Nat.ble 9 pc) (cond (Nat.ble 10 pc) ((10, .bipush 59, 2, 0, 0, (59), (0), [], 0)) ((9, .aload_n 0, 1, 0, 0, (0), (0), [], 0))) (cond (Nat.ble 6 pc) ((6, .invokevirtual 51, 3, 24, 1, (0), (0), [], 590)) ((5, .aload_n 0, 1, 0, 0, (0), (0), [], 0)))) (cond (Nat.ble 1 pc) (cond (Nat.ble 2 pc) ((2, .invokevirtual 47, 3, 22, 2, (0), (0), [], 581)) ((1, .iload_n 1, 1, 1, 0, (0), (0), [], 0))) ((0, .aload_n 0, 1, 0, 0, (0), (0), [], 0))))
def pg_22 (pc : Nat) : RI := cond (Nat.ble 12 pc) (cond (Nat.ble 21 pc) (cond (Nat.ble 22 pc) (cond (Nat.ble 25 pc) ((25, .return_, 1, 0, 0, (0), (0), [], 0)) ((22, .invokevirtual 44, 3, 23, 1, (0), (0), [], 586))) ((21, .aload_n 0, 1, 0, 0, (0), (0), [], 0))) (cond (Nat.ble 15 pc) (cond (Nat.ble 18 pc) ((18, .goto 7, 3, 25, 0, (0), (0), [], 0)) ((15, .invokevirtual 57, 3, 55, 1, (0), (0), [], 585))) ((12, .getfield 18, 3, 4, 0, (0), (0), [], 220)))) (cond (Nat.ble 7 pc) (cond (Nat.ble 8 pc) (cond (Nat.ble 11 pc) ((11, .aload_n 0, 1, 0, 0, (0), (0), [], 0)) ((8, .if_icmp .ne 13, 3, 21, 0, (0), (0), [], 0))) ((7, .iload_n 1, 1, 1, 0, (0), (0), [], 0))) (cond (Nat.ble 1 pc) (cond (Nat.ble 4 pc) ((4, .getfield 41, 3, 9, 3, (1), (0), [], 194)) ((1, .getfield 18, 3, 4, 0, (0), (0), [], 220))) ((0, .aload_n 0, 1, 0, 0, (0), (0), [], 0))))
def pg_23 (pc : Nat) : RI := cond (Nat.ble 13 pc) (cond (Nat.ble 20 pc) (cond (Nat.ble 24 pc) (cond (Nat.ble 27 pc) ((27, .return_, 1, 0, 0, (0), (0), [], 0)) ((24, .putfield 41, 3, 9, 3, (1), (0), [], 194))) (cond (Nat.ble 23 pc) ((23, .iconst 1, 1, 0, 0, (1), (0), [], 0)) ((20, .getfield 18, 3, 4, 0, (0), (0), [], 220)))) (cond (Nat.ble 16 pc) (cond (Nat.ble 19 pc) ((19, .aload_n 0, 1, 0, 0, (0), (0), [], 0)) ((16, .putfield 29, 3, 4, 5, (0), (0), [], 228))) ((13, .getfield 95, 3, 9, 4, (1), (0), [], 197)))) (cond (Nat.ble 5 pc) (cond (Nat.ble 9 pc) (cond (Nat.ble 10 pc) ((10, .getfield 18, 3, 4, 0, (0), (0), [], 220)) ((9, .aload_n 0, 1, 0, 0, (0), (0), [], 0))) (cond (Nat.ble 8 pc) ((8, .aload_n 0, 1, 0, 0, (0), (0), [], 0)) ((5, .if_icmp .ne 14, 3, 19, 0, (0), (0), [], 0)))) (cond (Nat.ble 1 pc) (cond (Nat.ble 4 pc) ((4, .iconst (-1), 1, 0, 0, (-1), (0), [], 0)) ((1, .getfield 29, 3, 4, 5, (0), (0), [], 228))) ((0, .aload_n 0, 1, 0, 0, (0), (0), [], 0))))
def pg_24 (pc : Nat) : RI := cond (Nat.ble 23 pc) (cond (Nat.ble 37 pc) (cond (Nat.ble 44 pc) (cond (Nat.ble 47 pc) (cond (Nat.ble 50 pc) ((50, .return_, 1, 0, 0, (0), (0), [], 0)) ((47, .goto (-41), 3, 6, 0, (0), (0), [], 0))) ((44, .iinc 1 1, 3, 1, 0, (1), (0), [], 0))) (cond (Nat.ble 38 pc) (cond (Nat.ble 41 pc) ((41, .invokevirtual 60, 3, 31, 2, (0), (0), [], 618)) ((38, .sipush (-131), 3, 0, 0, (-131), (0), [], 0))) ((37, .aload_n 0, 1, 0, 0, (0), (0), [], 0)))) (cond (Nat.ble 30 pc) (cond (Nat.ble 33 pc) (cond (Nat.ble 34 pc) ((34, .invokevirtual 54, 3, 25, 1, (0), (0), [], 594)) ((33, .aload_n 0, 1, 0, 0, (0), (0), [], 0))) ((30, .invokevirtual 57, 3, 55, 1, (0), (0), [], 585))) (cond (Nat.ble 26 pc) (cond (Nat.ble 27 pc) ((27, .getfield 18, 3, 4, 0, (0), (0), [], 220)) ((26, .aload_n 0, 1, 0, 0, (0), (0), [], 0))) ((23, .if_icmp .ne 27, 3, 50, 0, (0), (0), [], 0))))) (cond (Nat.ble 7 pc) (cond (Nat.ble 14 pc) (cond (Nat.ble 17 pc) (cond (Nat.ble 20 pc) ((20, .sipush 131, 3, 0, 0, (131), (0), [], 0)) ((17, .getfield 41, 3, 9, 3, (1), (0), [], 194))) ((14, .getfield 18, 3, 4, 0, (0), (0), [], 220))) (cond (Nat.ble 10 pc) (cond (Nat.ble 13 pc) ((13, .aload_n 0, 1, 0, 0, (0), (0), [], 0)) ((10, .if_icmp .ge 40, 3, 50, 0, (0), (0), [], 0))) ((7, .sipush 160, 3, 0, 0, (160), (0), [], 0)))) (cond (Nat.ble 4 pc) (cond (Nat.ble 5 pc) (cond (Nat.ble 6 pc) ((6, .iload_n 1, 1, 1, 0, (0), (0), [], 0)) ((5, .istore_n 1, 1, 1, 0, (0), (0), [], 0))) ((4, .iconst 0, 1, 0, 0, (0), (0), [], 0))) (cond (Nat.ble 1 pc) ((1, .invokevirtual 54, 3, 25, 1, (0), (0), [], 594)) ((0, .aload_n 0, 1, 0, 0, (0), (0), [], 0)))))
def pg_25 (pc : Nat) : RI := cond (Nat.ble 23 pc) (cond (Nat.ble 37 pc) (cond (Nat.ble 44 pc) (cond (Nat.ble 47 pc) (cond (Nat.ble 50 pc) ((50, .return_, 1, 0, 0, (0), (0), [], 0)) ((47, .goto (-41), 3, 6, 0, (0), (0), [], 0))) ((44, .iinc 1 1, 3, 1, 0, (1), (0), [], 0))) (cond (Nat.ble 38 pc) (cond (Nat.ble 41 pc) ((41, .invokevirtual 60, 3, 31, 2, (0), (0), [], 618)) ((38, .sipush (-132), 3, 0, 0, (-132), (0), [], 0))) ((37, .aload_n 0, 1, 0, 0, (0), (0), [], 0)))) (cond (Nat.ble 30 pc) (cond (Nat.ble 33 pc) (cond (Nat.ble 34 pc) ((34, .invokevirtual 63, 3, 26, 1, (0), (0), [], 598)) ((33, .aload_n 0, 1, 0, 0, (0), (0), [], 0))) ((30, .invokevirtual 57, 3, 55, 1, (0), (0), [], 585))) (cond (Nat.ble 26 pc) (cond (Nat.ble 27 pc) ((27, .getfield 18, 3, 4, 0, (0), (0), [], 220)) ((26, .aload_n 0, 1, 0, 0, (0), (0), [], 0))) ((23, .if_icmp .ne 27, 3, 50, 0, (0), (0), [], 0))))) (cond (Nat.ble 7 pc) (cond (Nat.ble 14 pc) (cond (Nat.ble 17 pc) (cond (Nat.ble 20 pc) ((20, .sipush 132, 3, 0, 0, (132), (0), [], 0)) ((17, .getfield 41, 3, 9, 3, (1), (0), [], 194))) ((14, .getfield 18, 3, 4, 0, (0), (0), [], 220))) (cond (Nat.ble 10 pc) (cond (Nat.ble 13 pc) ((13, .aload_n 0, 1, 0, 0, (0), (0), [], 0)) ((10, .if_icmp .ge 40, 3, 50, 0, (0), (0), [], 0))) ((7, .sipush 160, 3, 0, 0, (160), (0), [], 0)))) (cond (Nat.ble 4 pc) (cond (Nat.ble 5 pc) (cond (Nat.ble 6 pc) ((6, .iload_n 1, 1, 1, 0, (0), (0), [], 0)) ((5, .istore_n 1, 1, 1, 0, (0), (0), [], 0))) ((4, .iconst 0, 1, 0, 0, (0), (0), [], 0))) (cond (Nat.ble 1 pc) ((1, .invokevirtual 63, 3, 26, 1, (0), (0), [], 598)) ((0, .aload_n 0, 1, 0, 0, (0), (0), [], 0)))))
def pg_26 (pc : Nat) : RI := cond (Nat.ble 27 pc) (cond (Nat.ble 39 pc) (cond (Nat.ble 44 pc) (cond (Nat.ble 45 pc) (cond (Nat.ble 48 pc) ((48, .return_, 1, 0, 0, (0), (0), [], 0)) ((45, .putfield 26, 3, 4, 4, (0), (0), [], 227))) ((44, .isub, 1, 0, 0, (0), (0), [], 0))) (cond (Nat.ble 40 pc) (cond (Nat.ble 43 pc) ((43, .iconst 1, 1, 0, 0, (1), (0), [], 0)) ((40, .getfield 26, 3, 4, 4, (0), (0), [], 227))) ((39, .dup, 1, 0, 0, (0), (0), [], 0)))) (cond (Nat.ble 32 pc) (cond (Nat.ble 35 pc) (cond (Nat.ble 38 pc) ((38, .aload_n 0, 1, 0, 0, (0), (0), [], 0)) ((35, .invokevirtual 60, 3, 31, 2, (0), (0), [], 618))) ((32, .sipush (-133), 3, 0, 0, (-133), (0), [], 0))) (cond (Nat.ble 28 pc) (cond (Nat.ble 31 pc) ((31, .aload_n 0, 1, 0, 0, (0), (0), [], 0)) ((28, .invokevirtual 63, 3, 26, 1, (0), (0), [], 598))) ((27, .aload_n 0, 1, 0, 0, (0), (0), [], 0))))) (cond (Nat.ble 13 pc) (cond (Nat.ble 20 pc) (cond (Nat.ble 21 pc) (cond (Nat.ble 24 pc) ((24, .ifCond .eq 24, 3, 48, 0, (0), (0), [], 0)) ((21, .invokevirtual 69, 3, 33, 1, (0), (0), [], 629))) ((20, .aload_n 0, 1, 0, 0, (0), (0), [], 0))) (cond (Nat.ble 14 pc) (cond (Nat.ble 17 pc) ((17, .goto 31, 3, 48, 0, (0), (0), [], 0)) ((14, .invokevirtual 66, 3, 27, 1, (0), (0), [], 602))) ((13, .aload_n 0, 1, 0, 0, (0), (0), [], 0)))) (cond (Nat.ble 4 pc) (cond (Nat.ble 7 pc) (cond (Nat.ble 10 pc) ((10, .if_icmp .eq 10, 3, 20, 0, (0), (0), [], 0)) ((7, .sipush 133, 3, 0, 0, (133), (0), [], 0))) ((4, .getfield 41, 3, 9, 3, (1), (0), [], 194))) (cond (Nat.ble 1 pc) ((1, .getfield 18, 3, 4, 0, (0), (0), [], 220)) ((0, .aload_n 0, 1, 0, 0, (0), (0), [], 0)))))
def pg_27 (pc : Nat) : RI := cond (Nat.ble 21 pc) (cond (Nat.ble 32 pc) (cond (Nat.ble 37 pc) (cond (Nat.ble 38 pc) (cond (Nat.ble 41 pc) ((41, .return_, 1, 0, 0, (0), (0), [], 0)) ((38, .invokevirtual 60, 3, 31, 2, (0), (0), [], 618))) ((37, .ineg, 1, 0, 0, (0), (0), [], 0))) (cond (Nat.ble 35 pc) (cond (Nat.ble 36 pc) ((36, .iload_n 1, 1, 1, 0, (0), (0), [], 0)) ((35, .aload_n 0, 1, 0, 0, (0), (0), [], 0))) ((32, .invokevirtual 73, 3, 28, 1, (0), (0), [], 606)))) (cond (Nat.ble 25 pc) (cond (Nat.ble 28 pc) (cond (Nat.ble 31 pc) ((31, .aload_n 0, 1, 0, 0, (0), (0), [], 0)) ((28, .invokevirtual 57, 3, 55, 1, (0), (0), [], 585))) ((25, .getfield 18, 3, 4, 0, (0), (0), [], 220))) (cond (Nat.ble 24 pc) ((24, .aload_n 0, 1, 0, 0, (0), (0), [], 0)) ((21, .if_icmp .ne 20, 3, 41, 0, (0), (0), [], 0))))) (cond (Nat.ble 11 pc) (cond (Nat.ble 15 pc) (cond (Nat.ble 18 pc) (cond (Nat.ble 19 pc) ((19, .bipush 61, 2, 0, 0, (61), (0), [], 0)) ((18, .iload_n 1, 1, 1, 0, (0), (0), [], 0))) ((15, .if_icmp .eq 9, 3, 24, 0, (0), (0), [], 0))) (cond (Nat.ble 12 pc) (cond (Nat.ble 13 pc) ((13, .bipush 60, 2, 0, 0, (60), (0), [], 0)) ((12, .iload_n 1, 1, 1, 0, (0), (0), [], 0))) ((11, .istore_n 1, 1, 1, 0, (0), (0), [], 0)))) (cond (Nat.ble 4 pc) (cond (Nat.ble 5 pc) (cond (Nat.ble 8 pc) ((8, .getfield 41, 3, 9, 3, (1), (0), [], 194)) ((5, .getfield 18, 3, 4, 0, (0), (0), [], 220))) ((4, .aload_n 0, 1, 0, 0, (0), (0), [], 0))) (cond (Nat.ble 1 pc) ((1, .invokevirtual 73, 3, 28, 1, (0), (0), [], 606)) ((0, .aload_n 0, 1, 0, 0, (0), (0), [], 0)))))
def pg_28 (pc : Nat) : RI := cond (Nat.ble 34 pc) (cond (Nat.ble 52 pc) (cond (Nat.ble 58 pc) (cond (Nat.ble 62 pc) (cond (Nat.ble 65 pc) (cond (Nat.ble 68 pc) ((68, .return_, 1, 0, 0, (0), (0), [], 0)) ((65, .goto (-59), 3, 6, 0, (0), (0), [], 0))) ((62, .iinc 1 1, 3, 1, 0, (1), (0), [], 0))) (cond (Nat.ble 59 pc) ((59, .invokevirtual 60, 3, 31, 2, (0), (0), [], 618)) ((58, .ineg, 1, 0, 0, (0), (0), [], 0)))) (cond (Nat.ble 56 pc) (cond (Nat.ble 57 pc) ((57, .iload_n 2, 1, 2, 0, (0), (0), [], 0)) ((56, .aload_n 0, 1, 0, 0, (0), (0), [], 0))) (cond (Nat.ble 53 pc) ((53, .invokevirtual 76, 3, 29, 1, (0), (0), [], 610)) ((52, .aload_n 0, 1, 0, 0, (0), (0), [], 0))))) (cond (Nat.ble 44 pc) (cond (Nat.ble 46 pc) (cond (Nat.ble 49 pc) ((49, .invokevirtual 57, 3, 55, 1, (0), (0), [], 585)) ((46, .getfield 18, 3, 4, 0, (0), (0), [], 220))) (cond (Nat.ble 45 pc) ((45, .aload_n 0, 1, 0, 0, (0), (0), [], 0)) ((44, .istore_n 2, 1, 2, 0, (0), (0), [], 0)))) (cond (Nat.ble 38 pc) (cond (Nat.ble 41 pc) ((41, .getfield 41, 3, 9, 3, (1), (0), [], 194)) ((38, .getfield 18, 3, 4, 0, (0), (0), [], 220))) (cond (Nat.ble 37 pc) ((37, .aload_n 0, 1, 0, 0, (0), (0), [], 0)) ((34, .if_icmp .ne 34, 3, 68, 0, (0), (0), [], 0)))))) (cond (Nat.ble 14 pc) (cond (Nat.ble 25 pc) (cond (Nat.ble 29 pc) (cond (Nat.ble 32 pc) ((32, .bipush 45, 2, 0, 0, (45), (0), [], 0)) ((29, .getfield 41, 3, 9, 3, (1), (0), [], 194))) (cond (Nat.ble 26 pc) ((26, .getfield 18, 3, 4, 0, (0), (0), [], 220)) ((25, .aload_n 0, 1, 0, 0, (0), (0), [], 0)))) (cond (Nat.ble 20 pc) (cond (Nat.ble 22 pc) ((22, .if_icmp .eq 15, 3, 37, 0, (0), (0), [], 0)) ((20, .bipush 43, 2, 0, 0, (43), (0), [], 0))) (cond (Nat.ble 17 pc) ((17, .getfield 41, 3, 9, 3, (1), (0), [], 194)) ((14, .getfield 18, 3, 4, 0, (0), (0), [], 220))))) (cond (Nat.ble 6 pc) (cond (Nat.ble 10 pc) (cond (Nat.ble 13 pc) ((13, .aload_n 0, 1, 0, 0, (0), (0), [], 0)) ((10, .if_icmp .ge 58, 3, 68, 0, (0), (0), [], 0))) (cond (Nat.ble 7 pc) ((7, .sipush 160, 3, 0, 0, (160), (0), [], 0)) ((6, .iload_n 1, 1, 1, 0, (0), (0), [], 0)))) (cond (Nat.ble 4 pc) (cond (Nat.ble 5 pc) ((5, .istore_n 1, 1, 1, 0, (0), (0), [], 0)) ((4, .iconst 0, 1, 0, 0, (0), (0), [], 0))) (cond (Nat.ble 1 pc) ((1, .invokevirtual 76, 3, 29, 1, (0), (0), [], 610)) ((0, .aload_n 0, 1, 0, 0, (0), (0), [], 0))))))
def pg_29 (pc : Nat) : RI := cond (Nat.ble 22 pc) (cond (Nat.ble 36 pc) (cond (Nat.ble 42 pc) (cond (Nat.ble 45 pc) (cond (Nat.ble 48 pc) ((48, .return_, 1, 0, 0, (0), (0), [], 0)) ((45, .goto (-39), 3, 6, 0, (0), (0), [], 0))) ((42, .iinc 1 1, 3, 1, 0, (1), (0), [], 0))) (cond (Nat.ble 37 pc) (cond (Nat.ble 39 pc) ((39, .invokevirtual 60, 3, 31, 2, (0), (0), [], 618)) ((37, .bipush (-42), 2, 0, 0, (-42), (0), [], 0))) ((36, .aload_n 0, 1, 0, 0, (0), (0), [], 0)))) (cond (Nat.ble 29 pc) (cond (Nat.ble 32 pc) (cond (Nat.ble 33 pc) ((33, .invokevirtual 79, 3, 30, 1, (0), (0), [], 614)) ((32, .aload_n 0, 1, 0, 0, (0), (0), [], 0))) ((29, .invokevirtual 57, 3, 55, 1, (0), (0), [], 585))) (cond (Nat.ble 25 pc) (cond (Nat.ble 26 pc) ((26, .getfield 18, 3, 4, 0, (0), (0), [], 220)) ((25, .aload_n 0, 1, 0, 0, (0), (0), [], 0))) ((22, .if_icmp .ne 26, 3, 48, 0, (0), (0), [], 0))))) (cond (Nat.ble 7 pc) (cond (Nat.ble 14 pc) (cond (Nat.ble 17 pc) (cond (Nat.ble 20 pc) ((20, .bipush 42, 2, 0, 0, (42), (0), [], 0)) ((17, .getfield 41, 3, 9, 3, (1), (0), [], 194))) ((14, .getfield 18, 3, 4, 0, (0), (0), [], 220))) (cond (Nat.ble 10 pc) (cond (Nat.ble 13 pc) ((13, .aload_n 0, 1, 0, 0, (0), (0), [], 0)) ((10, .if_icmp .ge 38, 3, 48, 0, (0), (0), [], 0))) ((7, .sipush 160, 3, 0, 0, (160), (0), [], 0)))) (cond (Nat.ble 4 pc) (cond (Nat.ble 5 pc) (cond (Nat.ble 6 pc) ((6, .iload_n 1, 1, 1, 0, (0), (0), [], 0)) ((5, .istore_n 1, 1, 1, 0, (0), (0), [], 0))) ((4, .iconst 0, 1, 0, 0, (0), (0), [], 0))) (cond (Nat.ble 1 pc) ((1, .invokevirtual 79, 3, 30, 1, (0), (0), [], 614)) ((0, .aload_n 0, 1, 0, 0, (0), (0), [], 0)))))
def pg_30 (pc : Nat) : RI := cond (Nat.ble 48 pc) (cond (Nat.ble 70 pc) (cond (Nat.ble 82 pc) (cond (Nat.ble 89 pc) (cond (Nat.ble 90 pc) (cond (Nat.ble 93 pc) ((93, .return_, 1, 0, 0, (0), (0), [], 0)) ((90, .invokevirtual 44, 3, 23, 1, (0), (0), [], 586))) ((89, .aload_n 0, 1, 0, 0, (0), (0), [], 0))) (cond (Nat.ble 83 pc) (cond (Nat.ble 86 pc) ((86, .goto 7, 3, 93, 0, (0), (0), [], 0)) ((83, .invokevirtual 92, 3, 34, 1, (0), (0), [], 633))) ((82, .aload_n 0, 1, 0, 0, (0), (0), [], 0)))) (cond (Nat.ble 76 pc) (cond (Nat.ble 77 pc) (cond (Nat.ble 79 pc) ((79, .if_icmp .ne 10, 3, 89, 0, (0), (0), [], 0)) ((77, .bipush 40, 2, 0, 0, (40), (0), [], 0))) ((76, .iload_n 1, 1, 1, 0, (0), (0), [], 0))) (cond (Nat.ble 73 pc) ((73, .goto 20, 3, 93, 0, (0), (0), [], 0)) ((70, .invokevirtual 89, 3, 32, 1, (0), (0), [], 625))))) (cond (Nat.ble 57 pc) (cond (Nat.ble 64 pc) (cond (Nat.ble 66 pc) (cond (Nat.ble 69 pc) ((69, .aload_n 0, 1, 0, 0, (0), (0), [], 0)) ((66, .if_icmp .ne 10, 3, 76, 0, (0), (0), [], 0))) ((64, .bipush 45, 2, 0, 0, (45), (0), [], 0))) (cond (Nat.ble 60 pc) (cond (Nat.ble 63 pc) ((63, .iload_n 1, 1, 1, 0, (0), (0), [], 0)) ((60, .goto 33, 3, 93, 0, (0), (0), [], 0))) ((57, .invokevirtual 57, 3, 55, 1, (0), (0), [], 585)))) (cond (Nat.ble 50 pc) (cond (Nat.ble 53 pc) (cond (Nat.ble 54 pc) ((54, .getfield 18, 3, 4, 0, (0), (0), [], 220)) ((53, .aload_n 0, 1, 0, 0, (0), (0), [], 0))) ((50, .invokevirtual 60, 3, 31, 2, (0), (0), [], 618))) (cond (Nat.ble 49 pc) ((49, .ineg, 1, 0, 0, (0), (0), [], 0)) ((48, .iload_n 1, 1, 1, 0, (0), (0), [], 0)))))) (cond (Nat.ble 21 pc) (cond (Nat.ble 34 pc) (cond (Nat.ble 41 pc) (cond (Nat.ble 44 pc) (cond (Nat.ble 47 pc) ((47, .aload_n 0, 1, 0, 0, (0), (0), [], 0)) ((44, .ifCond .eq 19, 3, 63, 0, (0), (0), [], 0))) ((41, .invokestatic 85, 3, 70, 3, (1), (0), [], 622))) (cond (Nat.ble 35 pc) (cond (Nat.ble 38 pc) ((38, .sipush 139, 3, 0, 0, (139), (0), [], 0)) ((35, .sipush 134, 3, 0, 0, (134), (0), [], 0))) ((34, .iload_n 1, 1, 1, 0, (0), (0), [], 0)))) (cond (Nat.ble 25 pc) (cond (Nat.ble 28 pc) (cond (Nat.ble 31 pc) ((31, .goto 62, 3, 93, 0, (0), (0), [], 0)) ((28, .invokevirtual 57, 3, 55, 1, (0), (0), [], 585))) ((25, .getfield 18, 3, 4, 0, (0), (0), [], 220))) (cond (Nat.ble 24 pc) ((24, .aload_n 0, 1, 0, 0, (0), (0), [], 0)) ((21, .invokevirtual 60, 3, 31, 2, (0), (0), [], 618))))) (cond (Nat.ble 9 pc) (cond (Nat.ble 14 pc) (cond (Nat.ble 15 pc) (cond (Nat.ble 18 pc) ((18, .getfield 82, 3, 9, 5, (1), (0), [], 199)) ((15, .getfield 18, 3, 4, 0, (0), (0), [], 220))) ((14, .aload_n 0, 1, 0, 0, (0), (0), [], 0))) (cond (Nat.ble 10 pc) (cond (Nat.ble 13 pc) ((13, .aload_n 0, 1, 0, 0, (0), (0), [], 0)) ((10, .if_icmp .ne 24, 3, 34, 0, (0), (0), [], 0))) ((9, .iconst 2, 1, 0, 0, (2), (0), [], 0)))) (cond (Nat.ble 4 pc) (cond (Nat.ble 7 pc) (cond (Nat.ble 8 pc) ((8, .iload_n 1, 1, 1, 0, (0), (0), [], 0)) ((7, .istore_n 1, 1, 1, 0, (0), (0), [], 0))) ((4, .getfield 41, 3, 9, 3, (1), (0), [], 194))) (cond (Nat.ble 1 pc) ((1, .getfield 18, 3, 4, 0, (0), (0), [], 220)) ((0, .aload_n 0, 1, 0, 0, (0), (0), [], 0))))))
def pg_31 (pc : Nat) : RI := cond (Nat.ble 18 pc) (cond (Nat.ble 22 pc) (cond (Nat.ble 26 pc) (cond (Nat.ble 27 pc) (cond (Nat.ble 30 pc) ((30, .return_, 1, 0, 0, (0), (0), [], 0)) ((27, .putfield 22, 3, 4, 3, (0), (0), [], 225))) ((26, .iadd, 1, 0, 0, (0), (0), [], 0))) (cond (Nat.ble 25 pc) ((25, .iconst 1, 1, 0, 0, (1), (0), [], 0)) ((22, .getfield 22, 3, 4, 3, (0), (0), [], 225)))) (cond (Nat.ble 20 pc) (cond (Nat.ble 21 pc) ((21, .dup, 1, 0, 0, (0), (0), [], 0)) ((20, .aload_n 0, 1, 0, 0, (0), (0), [], 0))) (cond (Nat.ble 19 pc) ((19, .iastore, 1, 0, 0, (0), (0), [], 0)) ((18, .iload_n 1, 1, 1, 0, (0), (0), [], 0))))) (cond (Nat.ble 10 pc) (cond (Nat.ble 14 pc) (cond (Nat.ble 15 pc) ((15, .getfield 22, 3, 4, 3, (0), (0), [], 225)) ((14, .aload_n 0, 1, 0, 0, (0), (0), [], 0))) (cond (Nat.ble 11 pc) ((11, .getfield 9, 3, 4, 1, (0), (0), [], 221)) ((10, .aload_n 0, 1, 0, 0, (0), (0), [], 0)))) (cond (Nat.ble 4 pc) (cond (Nat.ble 7 pc) ((7, .if_icmp .ge 23, 3, 30, 0, (0), (0), [], 0)) ((4, .sipush 160, 3, 0, 0, (160), (0), [], 0))) (cond (Nat.ble 1 pc) ((1, .getfield 22, 3, 4, 3, (0), (0), [], 225)) ((0, .aload_n 0, 1, 0, 0, (0), (0), [], 0)))))
def pg_32 (pc : Nat) : RI := cond (Nat.ble 14 pc) (cond (Nat.ble 22 pc) (cond (Nat.ble 24 pc) (cond (Nat.ble 27 pc) ((27, .return_, 1, 0, 0, (0), (0), [], 0)) ((24, .putfield 26, 3, 4, 4, (0), (0), [], 227))) (cond (Nat.ble 23 pc) ((23, .isub, 1, 0, 0, (0), (0), [], 0)) ((22, .iconst 1, 1, 0, 0, (1), (0), [], 0)))) (cond (Nat.ble 18 pc) (cond (Nat.ble 19 pc) ((19, .getfield 26, 3, 4, 4, (0), (0), [], 227)) ((18, .dup, 1, 0, 0, (0), (0), [], 0))) (cond (Nat.ble 17 pc) ((17, .aload_n 0, 1, 0, 0, (0), (0), [], 0)) ((14, .invokevirtual 60, 3, 31, 2, (0), (0), [], 618))))) (cond (Nat.ble 7 pc) (cond (Nat.ble 11 pc) (cond (Nat.ble 12 pc) ((12, .bipush (-3), 2, 0, 0, (-3), (0), [], 0)) ((11, .aload_n 0, 1, 0, 0, (0), (0), [], 0))) (cond (Nat.ble 8 pc) ((8, .invokevirtual 79, 3, 30, 1, (0), (0), [], 614)) ((7, .aload_n 0, 1, 0, 0, (0), (0), [], 0)))) (cond (Nat.ble 1 pc) (cond (Nat.ble 4 pc) ((4, .ifCond .eq 23, 3, 27, 0, (0), (0), [], 0)) ((1, .invokevirtual 69, 3, 33, 1, (0), (0), [], 629))) ((0, .aload_n 0, 1, 0, 0, (0), (0), [], 0))))
def pg_33 (pc : Nat) : RI := cond (Nat.ble 15 pc) (cond (Nat.ble 24 pc) (cond (Nat.ble 28 pc) (cond (Nat.ble 31 pc) (cond (Nat.ble 32 pc) ((32, .ireturn, 1, 1, 0, (0), (0), [], 0)) ((31, .iconst 1, 1, 0, 0, (1), (0), [], 0))) ((28, .invokevirtual 57, 3, 55, 1, (0), (0), [], 585))) (cond (Nat.ble 25 pc) ((25, .getfield 18, 3, 4, 0, (0), (0), [], 220)) ((24, .aload_n 0, 1, 0, 0, (0), (0), [], 0)))) (cond (Nat.ble 19 pc) (cond (Nat.ble 20 pc) (cond (Nat.ble 21 pc) ((21, .putfield 26, 3, 4, 4, (0), (0), [], 227)) ((20, .iadd, 1, 0, 0, (0), (0), [], 0))) ((19, .iconst 1, 1, 0, 0, (1), (0), [], 0))) (cond (Nat.ble 16 pc) ((16, .getfield 26, 3, 4, 4, (0), (0), [], 227)) ((15, .dup, 1, 0, 0, (0), (0), [], 0))))) (cond (Nat.ble 8 pc) (cond (Nat.ble 12 pc) (cond (Nat.ble 13 pc) (cond (Nat.ble 14 pc) ((14, .aload_n 0, 1, 0, 0, (0), (0), [], 0)) ((13, .ireturn, 1, 1, 0, (0), (0), [], 0))) ((12, .iconst 0, 1, 0, 0, (0), (0), [], 0))) (cond (Nat.ble 9 pc) ((9, .invokevirtual 44, 3, 23, 1, (0), (0), [], 586)) ((8, .aload_n 0, 1, 0, 0, (0), (0), [], 0)))) (cond (Nat.ble 4 pc) (cond (Nat.ble 5 pc) ((5, .if_icmp .lt 9, 3, 14, 0, (0), (0), [], 0)) ((4, .iconst 5, 1, 0, 0, (5), (0), [], 0))) (cond (Nat.ble 1 pc) ((1, .getfield 26, 3, 4, 4, (0), (0), [], 227)) ((0, .aload_n 0, 1, 0, 0, (0), (0), [], 0)))))
def pg_34 (pc : Nat) : RI := cond (Nat.ble 14 pc) (cond (Nat.ble 22 pc) (cond (Nat.ble 24 pc) (cond (Nat.ble 27 pc) ((27, .return_, 1, 0, 0, (0), (0), [], 0)) ((24, .putfield 26, 3, 4, 4, (0), (0), [], 227))) (cond (Nat.ble 23 pc) ((23, .isub, 1, 0, 0, (0), (0), [], 0)) ((22, .iconst 1, 1, 0, 0, (1), (0), [], 0)))) (cond (Nat.ble 18 pc) (cond (Nat.ble 19 pc) ((19, .getfield 26, 3, 4, 4, (0), (0), [], 227)) ((18, .dup, 1, 0, 0, (0), (0), [], 0))) (cond (Nat.ble 17 pc) ((17, .aload_n 0, 1, 0, 0, (0), (0), [], 0)) ((14, .invokevirtual 47, 3, 22, 2, (0), (0), [], 581))))) (cond (Nat.ble 7 pc) (cond (Nat.ble 11 pc) (cond (Nat.ble 12 pc) ((12, .bipush 41, 2, 0, 0, (41), (0), [], 0)) ((11, .aload_n 0, 1, 0, 0, (0), (0), [], 0))) (cond (Nat.ble 8 pc) ((8, .invokevirtual 51, 3, 24, 1, (0), (0), [], 590)) ((7, .aload_n 0, 1, 0, 0, (0), (0), [], 0)))) (cond (Nat.ble 1 pc) (cond (Nat.ble 4 pc) ((4, .ifCond .eq 23, 3, 27, 0, (0), (0), [], 0)) ((1, .invokevirtual 69, 3, 33, 1, (0), (0), [], 629))) ((0, .aload_n 0, 1, 0, 0, (0), (0), [], 0))))
def pg_35 (pc : Nat) : RI := cond (Nat.ble 14 pc) (cond (Nat.ble 21 pc) (cond (Nat.ble 26 pc) (cond (Nat.ble 28 pc) (cond (Nat.ble 29 pc) ((29, .return_, 1, 0, 0, (0), (0), [], 0)) ((28, .iastore, 1, 0, 0, (0), (0), [], 0))) ((26, .iload 4, 2, 4, 0, (0), (0), [], 0))) (cond (Nat.ble 22 pc) (cond (Nat.ble 25 pc) ((25, .iconst 5, 1, 0, 0, (5), (0), [], 0)) ((22, .getfield 11, 3, 5, 0, (0), (0), [], 248))) ((21, .aload_n 0, 1, 0, 0, (0), (0), [], 0)))) (cond (Nat.ble 18 pc) (cond (Nat.ble 19 pc) (cond (Nat.ble 20 pc) ((20, .iastore, 1, 0, 0, (0), (0), [], 0)) ((19, .iload_n 3, 1, 3, 0, (0), (0), [], 0))) ((18, .iconst 2, 1, 0, 0, (2), (0), [], 0))) (cond (Nat.ble 15 pc) ((15, .getfield 11, 3, 5, 0, (0), (0), [], 248)) ((14, .aload_n 0, 1, 0, 0, (0), (0), [], 0))))) (cond (Nat.ble 7 pc) (cond (Nat.ble 11 pc) (cond (Nat.ble 12 pc) (cond (Nat.ble 13 pc) ((13, .iastore, 1, 0, 0, (0), (0), [], 0)) ((12, .iload_n 2, 1, 2, 0, (0), (0), [], 0))) ((11, .iconst 1, 1, 0, 0, (1), (0), [], 0))) (cond (Nat.ble 8 pc) ((8, .getfield 11, 3, 5, 0, (0), (0), [], 248)) ((7, .aload_n 0, 1, 0, 0, (0), (0), [], 0)))) (cond (Nat.ble 4 pc) (cond (Nat.ble 5 pc) (cond (Nat.ble 6 pc) ((6, .iastore, 1, 0, 0, (0), (0), [], 0)) ((5, .iload_n 1, 1, 1, 0, (0), (0), [], 0))) ((4, .iconst 0, 1, 0, 0, (0), (0), [], 0))) (cond (Nat.ble 1 pc) ((1, .getfield 11, 3, 5, 0, (0), (0), [], 248)) ((0, .aload_n 0, 1, 0, 0, (0), (0), [], 0)))))
def pg_36 (pc : Nat) : RI := cond (Nat.ble 7 pc) (cond (Nat.ble 12 pc) (cond (Nat.ble 13 pc) (cond (Nat.ble 14 pc) ((14, .return_, 1, 0, 0, (0), (0), [], 0)) ((13, .iastore, 1, 0, 0, (0), (0), [], 0))) ((12, .iload_n 2, 1, 2, 0, (0), (0), [], 0))) (cond (Nat.ble 8 pc) (cond (Nat.ble 11 pc) ((11, .iconst 4, 1, 0, 0, (4), (0), [], 0)) ((8, .getfield 11, 3, 5, 0, (0), (0), [], 248))) ((7, .aload_n 0, 1, 0, 0, (0), (0), [], 0)))) (cond (Nat.ble 4 pc) (cond (Nat.ble 5 pc) (cond (Nat.ble 6 pc) ((6, .iastore, 1, 0, 0, (0), (0), [], 0)) ((5, .iload_n 1, 1, 1, 0, (0), (0), [], 0))) ((4, .iconst 3, 1, 0, 0, (3), (0), [], 0))) (cond (Nat.ble 1 pc) ((1, .getfield 11, 3, 5, 0, (0), (0), [], 248)) ((0, .aload_n 0, 1, 0, 0, (0), (0), [], 0))))
def pg_37 (pc : Nat) : RI := cond (Nat.ble 18 pc) (cond (Nat.ble 28 pc) (cond (Nat.ble 37 pc) (cond (Nat.ble 38 pc) (cond (Nat.ble 41 pc) ((41, .ireturn, 1, 0, 0, (0), (0), [], 0)) ((38, .invokevirtual 40, 3, 40, 1, (0), (0), [], 943))) ((37, .aload_n 0, 1, 0, 0, (0), (0), [], 0))) (cond (Nat.ble 31 pc) (cond (Nat.ble 34 pc) ((34, .goto (-23), 3, 11, 0, (0), (0), [], 0)) ((31, .iinc 3 1, 3, 3, 0, (1), (0), [], 0))) ((28, .invokevirtual 36, 3, 38, 2, (0), (0), [], 934)))) (cond (Nat.ble 23 pc) (cond (Nat.ble 26 pc) (cond (Nat.ble 27 pc) ((27, .iaload, 1, 0, 0, (0), (0), [], 0)) ((26, .iload_n 3, 1, 3, 0, (0), (0), [], 0))) ((23, .getfield 33, 3, 8, 0, (1), (0), [], 397))) (cond (Nat.ble 21 pc) (cond (Nat.ble 22 pc) ((22, .aload_n 1, 1, 1, 0, (0), (0), [], 0)) ((21, .aload_n 0, 1, 0, 0, (0), (0), [], 0))) ((18, .if_icmp .ge 19, 3, 37, 0, (0), (0), [], 0))))) (cond (Nat.ble 10 pc) (cond (Nat.ble 13 pc) (cond (Nat.ble 16 pc) (cond (Nat.ble 17 pc) ((17, .iaload, 1, 0, 0, (0), (0), [], 0)) ((16, .iload_n 2, 1, 2, 0, (0), (0), [], 0))) ((13, .getfield 30, 3, 8, 1, (1), (0), [], 399))) (cond (Nat.ble 11 pc) (cond (Nat.ble 12 pc) ((12, .aload_n 1, 1, 1, 0, (0), (0), [], 0)) ((11, .iload_n 3, 1, 3, 0, (0), (0), [], 0))) ((10, .istore_n 3, 1, 3, 0, (0), (0), [], 0)))) (cond (Nat.ble 5 pc) (cond (Nat.ble 6 pc) (cond (Nat.ble 7 pc) ((7, .invokevirtual 24, 3, 51, 2, (0), (0), [], 930)) ((6, .iload_n 2, 1, 2, 0, (0), (0), [], 0))) ((5, .aload_n 1, 1, 1, 0, (0), (0), [], 0))) (cond (Nat.ble 1 pc) (cond (Nat.ble 2 pc) ((2, .putfield 20, 3, 5, 2, (0), (0), [], 250)) ((1, .iconst 0, 1, 0, 0, (0), (0), [], 0))) ((0, .aload_n 0, 1, 0, 0, (0), (0), [], 0)))))
def pg_38 (pc : Nat) : RI := cond (Nat.ble 54 pc) (cond (Nat.ble 82 pc) (cond (Nat.ble 97 pc) (cond (Nat.ble 103 pc) (cond (Nat.ble 107 pc) (cond (Nat.ble 110 pc) ((110, .return_, 1, 0, 0, (0), (0), [], 0)) ((107, .invokevirtual 44, 3, 39, 2, (0), (0), [], 938))) (cond (Nat.ble 104 pc) ((104, .invokestatic 53, 3, 41, 3, (0), (0), [], 947)) ((103, .iload_n 3, 1, 3, 0, (0), (0), [], 0)))) (cond (Nat.ble 100 pc) (cond (Nat.ble 101 pc) ((101, .iload 4, 2, 4, 0, (0), (0), [], 0)) ((100, .iload_n 2, 1, 2, 0, (0), (0), [], 0))) (cond (Nat.ble 99 pc) ((99, .aload_n 0, 1, 0, 0, (0), (0), [], 0)) ((97, .istore 4, 2, 4, 0, (0), (0), [], 0))))) (cond (Nat.ble 89 pc) (cond (Nat.ble 93 pc) (cond (Nat.ble 94 pc) ((94, .invokevirtual 40, 3, 40, 1, (0), (0), [], 943)) ((93, .aload_n 0, 1, 0, 0, (0), (0), [], 0))) (cond (Nat.ble 92 pc) ((92, .istore_n 3, 1, 3, 0, (0), (0), [], 0)) ((89, .invokevirtual 40, 3, 40, 1, (0), (0), [], 943)))) (cond (Nat.ble 85 pc) (cond (Nat.ble 88 pc) ((88, .aload_n 0, 1, 0, 0, (0), (0), [], 0)) ((85, .goto 25, 3, 110, 0, (0), (0), [], 0))) ((82, .invokevirtual 44, 3, 39, 2, (0), (0), [], 938))))) (cond (Nat.ble 71 pc) (cond (Nat.ble 76 pc) (cond (Nat.ble 78 pc) (cond (Nat.ble 81 pc) ((81, .ineg, 1, 0, 0, (0), (0), [], 0)) ((78, .invokevirtual 40, 3, 40, 1, (0), (0), [], 943))) (cond (Nat.ble 77 pc) ((77, .aload_n 0, 1, 0, 0, (0), (0), [], 0)) ((76, .aload_n 0, 1, 0, 0, (0), (0), [], 0)))) (cond (Nat.ble 72 pc) (cond (Nat.ble 73 pc) ((73, .if_icmp .ne 15, 3, 88, 0, (0), (0), [], 0)) ((72, .iconst 3, 1, 0, 0, (3), (0), [], 0))) ((71, .iload_n 2, 1, 2, 0, (0), (0), [], 0)))) (cond (Nat.ble 61 pc) (cond (Nat.ble 65 pc) (cond (Nat.ble 68 pc) ((68, .goto 42, 3, 110, 0, (0), (0), [], 0)) ((65, .invokevirtual 44, 3, 39, 2, (0), (0), [], 938))) (cond (Nat.ble 64 pc) ((64, .iconst 0, 1, 0, 0, (0), (0), [], 0)) ((61, .goto 4, 3, 65, 0, (0), (0), [], 0)))) (cond (Nat.ble 57 pc) (cond (Nat.ble 60 pc) ((60, .iconst 1, 1, 0, 0, (1), (0), [], 0)) ((57, .ifCond .ne 7, 3, 64, 0, (0), (0), [], 0))) ((54, .invokevirtual 40, 3, 40, 1, (0), (0), [], 943)))))) (cond (Nat.ble 28 pc) (cond (Nat.ble 39 pc) (cond (Nat.ble 46 pc) (cond (Nat.ble 52 pc) (cond (Nat.ble 53 pc) ((53, .aload_n 0, 1, 0, 0, (0), (0), [], 0)) ((52, .aload_n 0, 1, 0, 0, (0), (0), [], 0))) (cond (Nat.ble 49 pc) ((49, .if_icmp .ne 22, 3, 71, 0, (0), (0), [], 0)) ((46, .sipush 133, 3, 0, 0, (133), (0), [], 0)))) (cond (Nat.ble 42 pc) (cond (Nat.ble 45 pc) ((45, .iload_n 2, 1, 2, 0, (0), (0), [], 0)) ((42, .goto 68, 3, 110, 0, (0), (0), [], 0))) ((39, .invokevirtual 44, 3, 39, 2, (0), (0), [], 938)))) (cond (Nat.ble 33 pc) (cond (Nat.ble 37 pc) (cond (Nat.ble 38 pc) ((38, .iaload, 1, 0, 0, (0), (0), [], 0)) ((37, .isub, 1, 0, 0, (0), (0), [], 0))) (cond (Nat.ble 34 pc) ((34, .sipush 134, 3, 0, 0, (134), (0), [], 0)) ((33, .iload_n 2, 1, 2, 0, (0), (0), [], 0)))) (cond (Nat.ble 29 pc) (cond (Nat.ble 30 pc) ((30, .getfield 11, 3, 5, 0, (0), (0), [], 248)) ((29, .aload_n 0, 1, 0, 0, (0), (0), [], 0))) ((28, .aload_n 0, 1, 0, 0, (0), (0), [], 0))))) (cond (Nat.ble 9 pc) (cond (Nat.ble 16 pc) (cond (Nat.ble 22 pc) (cond (Nat.ble 25 pc) ((25, .ifCond .eq 20, 3, 45, 0, (0), (0), [], 0)) ((22, .invokestatic 47, 3, 70, 3, (1), (0), [], 942))) (cond (Nat.ble 19 pc) ((19, .sipush 139, 3, 0, 0, (139), (0), [], 0)) ((16, .sipush 134, 3, 0, 0, (134), (0), [], 0)))) (cond (Nat.ble 12 pc) (cond (Nat.ble 15 pc) ((15, .iload_n 2, 1, 2, 0, (0), (0), [], 0)) ((12, .goto 98, 3, 110, 0, (0), (0), [], 0))) ((9, .invokevirtual 44, 3, 39, 2, (0), (0), [], 938)))) (cond (Nat.ble 3 pc) (cond (Nat.ble 7 pc) (cond (Nat.ble 8 pc) ((8, .iload_n 1, 1, 1, 0, (0), (0), [], 0)) ((7, .aload_n 0, 1, 0, 0, (0), (0), [], 0))) (cond (Nat.ble 4 pc) ((4, .ifCond .lt 11, 3, 15, 0, (0), (0), [], 0)) ((3, .iload_n 1, 1, 1, 0, (0), (0), [], 0)))) (cond (Nat.ble 1 pc) (cond (Nat.ble 2 pc) ((2, .istore_n 2, 1, 2, 0, (0), (0), [], 0)) ((1, .ineg, 1, 0, 0, (0), (0), [], 0))) ((0, .iload_n 1, 1, 1, 0, (0), (0), [], 0))))))
def pg_39 (pc : Nat) : RI := cond (Nat.ble 17 pc) (cond (Nat.ble 24 pc) (cond (Nat.ble 28 pc) (cond (Nat.ble 29 pc) (cond (Nat.ble 32 pc) ((32, .return_, 1, 0, 0, (0), (0), [], 0)) ((29, .putfield 20, 3, 5, 2, (0), (0), [], 250))) ((28, .iadd, 1, 0, 0, (0), (0), [], 0))) (cond (Nat.ble 27 pc) ((27, .iconst 1, 1, 0, 0, (1), (0), [], 0)) ((24, .getfield 20, 3, 5, 2, (0), (0), [], 250)))) (cond (Nat.ble 21 pc) (cond (Nat.ble 22 pc) (cond (Nat.ble 23 pc) ((23, .dup, 1, 0, 0, (0), (0), [], 0)) ((22, .aload_n 0, 1, 0, 0, (0), (0), [], 0))) ((21, .iastore, 1, 0, 0, (0), (0), [], 0))) (cond (Nat.ble 20 pc) ((20, .iload_n 1, 1, 1, 0, (0), (0), [], 0)) ((17, .getfield 20, 3, 5, 2, (0), (0), [], 250))))) (cond (Nat.ble 8 pc) (cond (Nat.ble 12 pc) (cond (Nat.ble 13 pc) (cond (Nat.ble 16 pc) ((16, .aload_n 0, 1, 0, 0, (0), (0), [], 0)) ((13, .getfield 15, 3, 5, 1, (0), (0), [], 249))) ((12, .aload_n 0, 1, 0, 0, (0), (0), [], 0))) (cond (Nat.ble 9 pc) ((9, .if_icmp .ge 23, 3, 32, 0, (0), (0), [], 0)) ((8, .arraylength, 1, 0, 0, (0), (0), [], 0)))) (cond (Nat.ble 4 pc) (cond (Nat.ble 5 pc) ((5, .getfield 15, 3, 5, 1, (0), (0), [], 249)) ((4, .aload_n 0, 1, 0, 0, (0), (0), [], 0))) (cond (Nat.ble 1 pc) ((1, .getfield 20, 3, 5, 2, (0), (0), [], 250)) ((0, .aload_n 0, 1, 0, 0, (0), (0), [], 0)))))
def pg_40 (pc : Nat) : RI := cond (Nat.ble 14 pc) (cond (Nat.ble 20 pc) (cond (Nat.ble 24 pc) (cond (Nat.ble 27 pc) (cond (Nat.ble 28 pc) ((28, .ireturn, 1, 0, 0, (0), (0), [], 0)) ((27, .iaload, 1, 0, 0, (0), (0), [], 0))) ((24, .getfield 20, 3, 5, 2, (0), (0), [], 250))) (cond (Nat.ble 23 pc) ((23, .aload_n 0, 1, 0, 0, (0), (0), [], 0)) ((20, .getfield 15, 3, 5, 1, (0), (0), [], 249)))) (cond (Nat.ble 16 pc) (cond (Nat.ble 19 pc) ((19, .aload_n 0, 1, 0, 0, (0), (0), [], 0)) ((16, .putfield 20, 3, 5, 2, (0), (0), [], 250))) (cond (Nat.ble 15 pc) ((15, .isub, 1, 0, 0, (0), (0), [], 0)) ((14, .iconst 1, 1, 0, 0, (1), (0), [], 0))))) (cond (Nat.ble 8 pc) (cond (Nat.ble 10 pc) (cond (Nat.ble 11 pc) ((11, .getfield 20, 3, 5, 2, (0), (0), [], 250)) ((10, .dup, 1, 0, 0, (0), (0), [], 0))) (cond (Nat.ble 9 pc) ((9, .aload_n 0, 1, 0, 0, (0), (0), [], 0)) ((8, .ireturn, 1, 0, 0, (0), (0), [], 0)))) (cond (Nat.ble 4 pc) (cond (Nat.ble 7 pc) ((7, .iconst 0, 1, 0, 0, (0), (0), [], 0)) ((4, .ifCond .gt 5, 3, 9, 0, (0), (0), [], 0))) (cond (Nat.ble 1 pc) ((1, .getfield 20, 3, 5, 2, (0), (0), [], 250)) ((0, .aload_n 0, 1, 0, 0, (0), (0), [], 0)))))
def pg_41 (pc : Nat) : RI := cond (Nat.ble 94 pc) (cond (Nat.ble 111 pc) (cond (Nat.ble 116 pc) (cond (Nat.ble 119 pc) (cond (Nat.ble 120 pc) (cond (Nat.ble 121 pc) ((121, .ireturn, 1, 0, 0, (0), (0), [], 0)) ((120, .imul, 1, 0, 0, (0), (0), [], 0))) ((119, .iload_n 2, 1, 2, 0, (0), (0), [], 0))) (cond (Nat.ble 117 pc) (cond (Nat.ble 118 pc) ((118, .iload_n 1, 1, 1, 0, (0), (0), [], 0)) ((117, .ireturn, 1, 0, 0, (0), (0), [], 0))) ((116, .isub, 1, 0, 0, (0), (0), [], 0)))) (cond (Nat.ble 113 pc) (cond (Nat.ble 114 pc) (cond (Nat.ble 115 pc) ((115, .iload_n 2, 1, 2, 0, (0), (0), [], 0)) ((114, .iload_n 1, 1, 1, 0, (0), (0), [], 0))) ((113, .ireturn, 1, 0, 0, (0), (0), [], 0))) (cond (Nat.ble 112 pc) ((112, .iadd, 1, 0, 0, (0), (0), [], 0)) ((111, .iload_n 2, 1, 2, 0, (0), (0), [], 0))))) (cond (Nat.ble 101 pc) (cond (Nat.ble 108 pc) (cond (Nat.ble 109 pc) (cond (Nat.ble 110 pc) ((110, .iload_n 1, 1, 1, 0, (0), (0), [], 0)) ((109, .ireturn, 1, 0, 0, (0), (0), [], 0))) ((108, .iconst 0, 1, 0, 0, (0), (0), [], 0))) (cond (Nat.ble 104 pc) (cond (Nat.ble 105 pc) ((105, .goto 4, 3, 109, 0, (0), (0), [], 0)) ((104, .iconst 1, 1, 0, 0, (1), (0), [], 0))) ((101, .if_icmp .ne 7, 3, 108, 0, (0), (0), [], 0)))) (cond (Nat.ble 98 pc) (cond (Nat.ble 99 pc) (cond (Nat.ble 100 pc) ((100, .iload_n 2, 1, 2, 0, (0), (0), [], 0)) ((99, .iload_n 1, 1, 1, 0, (0), (0), [], 0))) ((98, .ireturn, 1, 0, 0, (0), (0), [], 0))) (cond (Nat.ble 97 pc) ((97, .iconst 0, 1, 0, 0, (0), (0), [], 0)) ((94, .goto 4, 3, 98, 0, (0), (0), [], 0)))))) (cond (Nat.ble 75 pc) (cond (Nat.ble 86 pc) (cond (Nat.ble 89 pc) (cond (Nat.ble 90 pc) (cond (Nat.ble 93 pc) ((93, .iconst 1, 1, 0, 0, (1), (0), [], 0)) ((90, .if_icmp .ge 7, 3, 97, 0, (0), (0), [], 0))) ((89, .iload_n 2, 1, 2, 0, (0), (0), [], 0))) (cond (Nat.ble 87 pc) (cond (Nat.ble 88 pc) ((88, .iload_n 1, 1, 1, 0, (0), (0), [], 0)) ((87, .ireturn, 1, 0, 0, (0), (0), [], 0))) ((86, .iconst 0, 1, 0, 0, (0), (0), [], 0)))) (cond (Nat.ble 79 pc) (cond (Nat.ble 82 pc) (cond (Nat.ble 83 pc) ((83, .goto 4, 3, 87, 0, (0), (0), [], 0)) ((82, .iconst 1, 1, 0, 0, (1), (0), [], 0))) ((79, .ifCond .eq 7, 3, 86, 0, (0), (0), [], 0))) (cond (Nat.ble 78 pc) ((78, .iload_n 2, 1, 2, 0, (0), (0), [], 0)) ((75, .ifCond .eq 11, 3, 86, 0, (0), (0), [], 0))))) (cond (Nat.ble 65 pc) (cond (Nat.ble 72 pc) (cond (Nat.ble 73 pc) (cond (Nat.ble 74 pc) ((74, .iload_n 1, 1, 1, 0, (0), (0), [], 0)) ((73, .ireturn, 1, 0, 0, (0), (0), [], 0))) ((72, .iconst 0, 1, 0, 0, (0), (0), [], 0))) (cond (Nat.ble 68 pc) (cond (Nat.ble 69 pc) ((69, .goto 4, 3, 73, 0, (0), (0), [], 0)) ((68, .iconst 1, 1, 0, 0, (1), (0), [], 0))) ((65, .ifCond .eq 7, 3, 72, 0, (0), (0), [], 0)))) (cond (Nat.ble 60 pc) (cond (Nat.ble 61 pc) (cond (Nat.ble 64 pc) ((64, .iload_n 2, 1, 2, 0, (0), (0), [], 0)) ((61, .ifCond .ne 7, 3, 68, 0, (0), (0), [], 0))) ((60, .iload_n 1, 1, 1, 0, (0), (0), [], 0))) (cond (Nat.ble 1 pc) ((1, .lookupswitch 117 #[(43, 109), (45, 113), (60, 87), (61, 98), (131, 59), (132, 73)], 59, 118, 0, (0), (0), [((43), 110), ((45), 114), ((60), 88), ((61), 99), ((131), 60), ((132), 74)], 0)) ((0, .iload_n 0, 1, 0, 0, (0), (0), [], 0))))))
def pg_42 (pc : Nat) : RI := cond (Nat.ble 21 pc) (cond (Nat.ble 35 pc) (cond (Nat.ble 40 pc) (cond (Nat.ble 44 pc) (cond (Nat.ble 45 pc) ((45, .ireturn, 1, 0, 0, (0), (0), [], 0)) ((44, .isub, 1, 0, 0, (0), (0), [], 0))) (cond (Nat.ble 43 pc) ((43, .iconst 1, 1, 0, 0, (1), (0), [], 0)) ((40, .getfield 22, 3, 6, 2, (0), (0), [], 166)))) (cond (Nat.ble 36 pc) (cond (Nat.ble 39 pc) ((39, .aload_n 0, 1, 0, 0, (0), (0), [], 0)) ((36, .putfield 22, 3, 6, 2, (0), (0), [], 166))) ((35, .iadd, 1, 0, 0, (0), (0), [], 0)))) (cond (Nat.ble 29 pc) (cond (Nat.ble 31 pc) (cond (Nat.ble 34 pc) ((34, .iconst 1, 1, 0, 0, (1), (0), [], 0)) ((31, .getfield 22, 3, 6, 2, (0), (0), [], 166))) (cond (Nat.ble 30 pc) ((30, .dup, 1, 0, 0, (0), (0), [], 0)) ((29, .aload_n 0, 1, 0, 0, (0), (0), [], 0)))) (cond (Nat.ble 24 pc) (cond (Nat.ble 26 pc) ((26, .invokestatic 39, 3, 186, 2, (0), (0), [], 712)) ((24, .bipush 10, 2, 0, 0, (10), (0), [], 0))) ((21, .getfield 36, 3, 3, 2, (1), (0), [], 138))))) (cond (Nat.ble 10 pc) (cond (Nat.ble 15 pc) (cond (Nat.ble 17 pc) (cond (Nat.ble 20 pc) ((20, .aload_n 3, 1, 3, 0, (0), (0), [], 0)) ((17, .putfield 33, 3, 3, 1, (1), (0), [], 136))) (cond (Nat.ble 16 pc) ((16, .iload_n 2, 1, 2, 0, (0), (0), [], 0)) ((15, .aload_n 3, 1, 3, 0, (0), (0), [], 0)))) (cond (Nat.ble 11 pc) (cond (Nat.ble 12 pc) ((12, .putfield 30, 3, 3, 0, (1), (0), [], 135)) ((11, .iload_n 1, 1, 1, 0, (0), (0), [], 0))) ((10, .aload_n 3, 1, 3, 0, (0), (0), [], 0)))) (cond (Nat.ble 5 pc) (cond (Nat.ble 8 pc) (cond (Nat.ble 9 pc) ((9, .astore_n 3, 1, 3, 0, (0), (0), [], 0)) ((8, .aaload, 1, 0, 0, (0), (0), [], 0))) ((5, .getfield 22, 3, 6, 2, (0), (0), [], 166))) (cond (Nat.ble 1 pc) (cond (Nat.ble 4 pc) ((4, .aload_n 0, 1, 0, 0, (0), (0), [], 0)) ((1, .getfield 11, 3, 6, 0, (0), (0), [], 161))) ((0, .aload_n 0, 1, 0, 0, (0), (0), [], 0)))))
def pg_43 (pc : Nat) : RI := cond (Nat.ble 6 pc) (cond (Nat.ble 8 pc) (cond (Nat.ble 11 pc) ((11, .ireturn, 1, 1, 0, (0), (0), [], 0)) ((8, .invokestatic 26, 3, 70, 3, (1), (0), [], 721))) (cond (Nat.ble 7 pc) ((7, .isub, 1, 0, 0, (0), (0), [], 0)) ((6, .iconst 1, 1, 0, 0, (1), (0), [], 0)))) (cond (Nat.ble 2 pc) (cond (Nat.ble 3 pc) ((3, .getfield 22, 3, 6, 2, (0), (0), [], 166)) ((2, .aload_n 0, 1, 0, 0, (0), (0), [], 0))) (cond (Nat.ble 1 pc) ((1, .iconst 0, 1, 0, 0, (0), (0), [], 0)) ((0, .iload_n 1, 1, 1, 0, (0), (0), [], 0))))
def pg_44 (pc : Nat) : RI := cond (Nat.ble 48 pc) (cond (Nat.ble 75 pc) (cond (Nat.ble 86 pc) (cond (Nat.ble 89 pc) (cond (Nat.ble 92 pc) (cond (Nat.ble 95 pc) ((95, .ireturn, 1, 0, 0, (0), (0), [], 0)) ((92, .invokestatic 70, 3, 1001, 2, (0), (0), [], 776))) (cond (Nat.ble 91 pc) ((91, .idiv, 1, 0, 0, (0), (0), [], 0)) ((89, .iload 6, 2, 6, 0, (0), (0), [], 0)))) (cond (Nat.ble 87 pc) (cond (Nat.ble 88 pc) ((88, .isub, 1, 0, 0, (0), (0), [], 0)) ((87, .iconst 1, 1, 0, 0, (1), (0), [], 0))) ((86, .iadd, 1, 0, 0, (0), (0), [], 0)))) (cond (Nat.ble 81 pc) (cond (Nat.ble 82 pc) (cond (Nat.ble 84 pc) ((84, .iload 6, 2, 6, 0, (0), (0), [], 0)) ((82, .iload 7, 2, 7, 0, (0), (0), [], 0))) ((81, .iconst 1, 1, 0, 0, (1), (0), [], 0))) (cond (Nat.ble 78 pc) (cond (Nat.ble 79 pc) ((79, .istore 7, 2, 7, 0, (0), (0), [], 0)) ((78, .iadd, 1, 0, 0, (0), (0), [], 0))) ((75, .invokestatic 65, 3, 1003, 1, (0), (0), [], 773))))) (cond (Nat.ble 60 pc) (cond (Nat.ble 66 pc) (cond (Nat.ble 71 pc) (cond (Nat.ble 74 pc) ((74, .isub, 1, 0, 0, (0), (0), [], 0)) ((71, .getfield 33, 3, 3, 1, (1), (0), [], 136))) (cond (Nat.ble 69 pc) ((69, .aload 4, 2, 4, 0, (0), (0), [], 0)) ((66, .getfield 33, 3, 3, 1, (1), (0), [], 136)))) (cond (Nat.ble 61 pc) (cond (Nat.ble 64 pc) ((64, .aload 5, 2, 5, 0, (0), (0), [], 0)) ((61, .invokestatic 65, 3, 1003, 1, (0), (0), [], 773))) ((60, .isub, 1, 0, 0, (0), (0), [], 0)))) (cond (Nat.ble 52 pc) (cond (Nat.ble 55 pc) (cond (Nat.ble 57 pc) ((57, .getfield 30, 3, 3, 0, (1), (0), [], 135)) ((55, .aload 4, 2, 4, 0, (0), (0), [], 0))) ((52, .getfield 30, 3, 3, 0, (1), (0), [], 135))) (cond (Nat.ble 49 pc) (cond (Nat.ble 50 pc) ((50, .aload 5, 2, 5, 0, (0), (0), [], 0)) ((49, .ireturn, 1, 0, 0, (0), (0), [], 0))) ((48, .iconst (-1), 1, 0, 0, (-1), (0), [], 0)))))) (cond (Nat.ble 22 pc) (cond (Nat.ble 35 pc) (cond (Nat.ble 40 pc) (cond (Nat.ble 43 pc) (cond (Nat.ble 45 pc) ((45, .ifCond .gt 5, 3, 50, 0, (0), (0), [], 0)) ((43, .iload 6, 2, 6, 0, (0), (0), [], 0))) (cond (Nat.ble 41 pc) ((41, .istore 6, 2, 6, 0, (0), (0), [], 0)) ((40, .iadd, 1, 0, 0, (0), (0), [], 0)))) (cond (Nat.ble 38 pc) (cond (Nat.ble 39 pc) ((39, .imul, 1, 0, 0, (0), (0), [], 0)) ((38, .iaload, 1, 0, 0, (0), (0), [], 0))) ((35, .invokestatic 61, 3, 80, 1, (1), (0), [], 770)))) (cond (Nat.ble 30 pc) (cond (Nat.ble 31 pc) (cond (Nat.ble 34 pc) ((34, .iload_n 3, 1, 3, 0, (0), (0), [], 0)) ((31, .getfield 17, 3, 6, 1, (0), (0), [], 164))) ((30, .aload_n 0, 1, 0, 0, (0), (0), [], 0))) (cond (Nat.ble 24 pc) (cond (Nat.ble 27 pc) ((27, .invokestatic 55, 3, 200, 2, (0), (0), [], 767)) ((24, .getfield 30, 3, 3, 0, (1), (0), [], 135))) ((22, .aload 4, 2, 4, 0, (0), (0), [], 0))))) (cond (Nat.ble 9 pc) (cond (Nat.ble 14 pc) (cond (Nat.ble 17 pc) (cond (Nat.ble 19 pc) ((19, .getfield 30, 3, 3, 0, (1), (0), [], 135)) ((17, .aload 5, 2, 5, 0, (0), (0), [], 0))) (cond (Nat.ble 16 pc) ((16, .iconst 2, 1, 0, 0, (2), (0), [], 0)) ((14, .astore 5, 2, 5, 0, (0), (0), [], 0)))) (cond (Nat.ble 12 pc) (cond (Nat.ble 13 pc) ((13, .aaload, 1, 0, 0, (0), (0), [], 0)) ((12, .iload_n 2, 1, 2, 0, (0), (0), [], 0))) ((9, .getfield 11, 3, 6, 0, (0), (0), [], 161)))) (cond (Nat.ble 5 pc) (cond (Nat.ble 6 pc) (cond (Nat.ble 8 pc) ((8, .aload_n 0, 1, 0, 0, (0), (0), [], 0)) ((6, .astore 4, 2, 4, 0, (0), (0), [], 0))) ((5, .aaload, 1, 0, 0, (0), (0), [], 0))) (cond (Nat.ble 1 pc) (cond (Nat.ble 4 pc) ((4, .iload_n 1, 1, 1, 0, (0), (0), [], 0)) ((1, .getfield 11, 3, 6, 0, (0), (0), [], 161))) ((0, .aload_n 0, 1, 0, 0, (0), (0), [], 0))))))
def pg_45 (pc : Nat) : RI := cond (Nat.ble 10 pc) (cond (Nat.ble 15 pc) (cond (Nat.ble 17 pc) (cond (Nat.ble 20 pc) ((20, .return_, 1, 0, 0, (0), (0), [], 0)) ((17, .invokevirtual 49, 3, 7, 4, (0), (0), [], 822))) (cond (Nat.ble 16 pc) ((16, .aaload, 1, 0, 0, (0), (0), [], 0)) ((15, .iload_n 1, 1, 1, 0, (0), (0), [], 0)))) (cond (Nat.ble 11 pc) (cond (Nat.ble 12 pc) ((12, .getfield 11, 3, 6, 0, (0), (0), [], 161)) ((11, .aload_n 0, 1, 0, 0, (0), (0), [], 0))) ((10, .iload_n 2, 1, 2, 0, (0), (0), [], 0)))) (cond (Nat.ble 5 pc) (cond (Nat.ble 6 pc) (cond (Nat.ble 9 pc) ((9, .iload_n 1, 1, 1, 0, (0), (0), [], 0)) ((6, .getfield 45, 3, 3, 5, (1), (0), [], 146))) ((5, .aaload, 1, 0, 0, (0), (0), [], 0))) (cond (Nat.ble 1 pc) (cond (Nat.ble 4 pc) ((4, .iload_n 1, 1, 1, 0, (0), (0), [], 0)) ((1, .getfield 11, 3, 6, 0, (0), (0), [], 161))) ((0, .aload_n 0, 1, 0, 0, (0), (0), [], 0))))
def pg_46 (pc : Nat) : RI := cond (Nat.ble 8 pc) (cond (Nat.ble 12 pc) (cond (Nat.ble 13 pc) ((13, .ireturn, 1, 1, 0, (0), (0), [], 0)) ((12, .iconst 0, 1, 0, 0, (0), (0), [], 0))) (cond (Nat.ble 9 pc) ((9, .goto 4, 3, 13, 0, (0), (0), [], 0)) ((8, .iconst 1, 1, 0, 0, (1), (0), [], 0)))) (cond (Nat.ble 4 pc) (cond (Nat.ble 5 pc) ((5, .if_icmp .ne 7, 3, 12, 0, (0), (0), [], 0)) ((4, .iconst (-1), 1, 0, 0, (-1), (0), [], 0))) (cond (Nat.ble 1 pc) ((1, .getfield 15, 3, 7, 1, (0), (0), [], 412)) ((0, .aload_n 0, 1, 0, 0, (0), (0), [], 0))))
def pg_47 (pc : Nat) : RI := cond (Nat.ble 6 pc) (cond (Nat.ble 8 pc) (cond (Nat.ble 11 pc) ((11, .ireturn, 1, 1, 0, (0), (0), [], 0)) ((8, .invokestatic 22, 3, 70, 3, (1), (0), [], 753))) (cond (Nat.ble 7 pc) ((7, .isub, 1, 0, 0, (0), (0), [], 0)) ((6, .iconst 1, 1, 0, 0, (1), (0), [], 0)))) (cond (Nat.ble 2 pc) (cond (Nat.ble 3 pc) ((3, .getfield 19, 3, 7, 2, (0), (0), [], 414)) ((2, .aload_n 0, 1, 0, 0, (0), (0), [], 0))) (cond (Nat.ble 1 pc) ((1, .iconst 0, 1, 0, 0, (0), (0), [], 0)) ((0, .iload_n 1, 1, 1, 0, (0), (0), [], 0))))
def pg_48 (pc : Nat) : RI := cond (Nat.ble 7 pc) (cond (Nat.ble 14 pc) (cond (Nat.ble 15 pc) (cond (Nat.ble 18 pc) ((18, .return_, 1, 0, 0, (0), (0), [], 0)) ((15, .invokestatic 26, 3, 186, 2, (0), (0), [], 1067))) ((14, .iconst 0, 1, 0, 0, (0), (0), [], 0))) (cond (Nat.ble 10 pc) (cond (Nat.ble 11 pc) ((11, .getfield 9, 3, 7, 0, (0), (0), [], 410)) ((10, .aload_n 0, 1, 0, 0, (0), (0), [], 0))) ((7, .putfield 19, 3, 7, 2, (0), (0), [], 414)))) (cond (Nat.ble 2 pc) (cond (Nat.ble 5 pc) (cond (Nat.ble 6 pc) ((6, .iload_n 2, 1, 2, 0, (0), (0), [], 0)) ((5, .aload_n 0, 1, 0, 0, (0), (0), [], 0))) ((2, .putfield 15, 3, 7, 1, (0), (0), [], 412))) (cond (Nat.ble 1 pc) ((1, .iload_n 1, 1, 1, 0, (0), (0), [], 0)) ((0, .aload_n 0, 1, 0, 0, (0), (0), [], 0))))
def pg_49 (pc : Nat) : RI := cond (Nat.ble 23 pc) (cond (Nat.ble 34 pc) (cond (Nat.ble 41 pc) (cond (Nat.ble 43 pc) (cond (Nat.ble 44 pc) ((44, .return_, 1, 0, 0, (0), (0), [], 0)) ((43, .iastore, 1, 0, 0, (0), (0), [], 0))) (cond (Nat.ble 42 pc) ((42, .iload_n 2, 1, 2, 0, (0), (0), [], 0)) ((41, .iload_n 1, 1, 1, 0, (0), (0), [], 0)))) (cond (Nat.ble 37 pc) (cond (Nat.ble 38 pc) ((38, .getfield 9, 3, 7, 0, (0), (0), [], 410)) ((37, .aload_n 0, 1, 0, 0, (0), (0), [], 0))) ((34, .goto 10, 3, 44, 0, (0), (0), [], 0)))) (cond (Nat.ble 30 pc) (cond (Nat.ble 32 pc) (cond (Nat.ble 33 pc) ((33, .iastore, 1, 0, 0, (0), (0), [], 0)) ((32, .i2s, 1, 0, 0, (0), (0), [], 0))) (cond (Nat.ble 31 pc) ((31, .iload_n 2, 1, 2, 0, (0), (0), [], 0)) ((30, .iload_n 1, 1, 1, 0, (0), (0), [], 0)))) (cond (Nat.ble 26 pc) (cond (Nat.ble 27 pc) ((27, .getfield 9, 3, 7, 0, (0), (0), [], 410)) ((26, .aload_n 0, 1, 0, 0, (0), (0), [], 0))) ((23, .if_icmp .ne 14, 3, 37, 0, (0), (0), [], 0))))) (cond (Nat.ble 12 pc) (cond (Nat.ble 15 pc) (cond (Nat.ble 19 pc) (cond (Nat.ble 22 pc) ((22, .iconst 1, 1, 0, 0, (1), (0), [], 0)) ((19, .getfield 15, 3, 7, 1, (0), (0), [], 412))) (cond (Nat.ble 18 pc) ((18, .aload_n 0, 1, 0, 0, (0), (0), [], 0)) ((15, .goto 29, 3, 44, 0, (0), (0), [], 0)))) (cond (Nat.ble 13 pc) (cond (Nat.ble 14 pc) ((14, .iastore, 1, 0, 0, (0), (0), [], 0)) ((13, .i2b, 1, 0, 0, (0), (0), [], 0))) ((12, .iload_n 2, 1, 2, 0, (0), (0), [], 0)))) (cond (Nat.ble 7 pc) (cond (Nat.ble 8 pc) (cond (Nat.ble 11 pc) ((11, .iload_n 1, 1, 1, 0, (0), (0), [], 0)) ((8, .getfield 9, 3, 7, 0, (0), (0), [], 410))) ((7, .aload_n 0, 1, 0, 0, (0), (0), [], 0))) (cond (Nat.ble 1 pc) (cond (Nat.ble 4 pc) ((4, .ifCond .ne 14, 3, 18, 0, (0), (0), [], 0)) ((1, .getfield 15, 3, 7, 1, (0), (0), [], 412))) ((0, .aload_n 0, 1, 0, 0, (0), (0), [], 0)))))
def pg_50 (pc : Nat) : RI := cond (Nat.ble 16 pc) (cond (Nat.ble 24 pc) (cond (Nat.ble 26 pc) (cond (Nat.ble 29 pc) ((29, .return_, 1, 0, 0, (0), (0), [], 0)) ((26, .invokestatic 32, 3, 1000, 5, (0), (0), [], 659))) (cond (Nat.ble 25 pc) ((25, .iconst 3, 1, 0, 0, (3), (0), [], 0)) ((24, .iconst 0, 1, 0, 0, (0), (0), [], 0)))) (cond (Nat.ble 20 pc) (cond (Nat.ble 21 pc) ((21, .getfield 15, 3, 8, 1, (0), (0), [], 398)) ((20, .aload_n 0, 1, 0, 0, (0), (0), [], 0))) (cond (Nat.ble 19 pc) ((19, .iconst 0, 1, 0, 0, (0), (0), [], 0)) ((16, .getfield 31, 3, 4, 2, (1), (0), [], 224))))) (cond (Nat.ble 6 pc) (cond (Nat.ble 12 pc) (cond (Nat.ble 15 pc) ((15, .aload_n 1, 1, 1, 0, (0), (0), [], 0)) ((12, .putfield 9, 3, 8, 0, (0), (0), [], 396))) (cond (Nat.ble 9 pc) ((9, .invokestatic 25, 3, 199, 2, (0), (0), [], 645)) ((6, .getfield 21, 3, 4, 3, (1), (0), [], 226)))) (cond (Nat.ble 2 pc) (cond (Nat.ble 5 pc) ((5, .aload_n 1, 1, 1, 0, (0), (0), [], 0)) ((2, .getfield 18, 3, 4, 1, (1), (0), [], 222))) (cond (Nat.ble 1 pc) ((1, .aload_n 1, 1, 1, 0, (0), (0), [], 0)) ((0, .aload_n 0, 1, 0, 0, (0), (0), [], 0)))))
def pg_51 (pc : Nat) : RI := cond (Nat.ble 9 pc) (cond (Nat.ble 14 pc) (cond (Nat.ble 15 pc) (cond (Nat.ble 16 pc) ((16, .ireturn, 1, 0, 0, (0), (0), [], 0)) ((15, .iaload, 1, 0, 0, (0), (0), [], 0))) ((14, .isub, 1, 0, 0, (0), (0), [], 0))) (cond (Nat.ble 12 pc) (cond (Nat.ble 13 pc) ((13, .iconst 1, 1, 0, 0, (1), (0), [], 0)) ((12, .iload_n 1, 1, 1, 0, (0), (0), [], 0))) ((9, .getfield 15, 3, 8, 1, (0), (0), [], 398)))) (cond (Nat.ble 4 pc) (cond (Nat.ble 5 pc) (cond (Nat.ble 8 pc) ((8, .aload_n 0, 1, 0, 0, (0), (0), [], 0)) ((5, .goto 11, 3, 16, 0, (0), (0), [], 0))) ((4, .iconst 0, 1, 0, 0, (0), (0), [], 0))) (cond (Nat.ble 1 pc) ((1, .ifCond .ne 7, 3, 8, 0, (0), (0), [], 0)) ((0, .iload_n 1, 1, 1, 0, (0), (0), [], 0))))
def pg_52 (pc : Nat) : RI := cond (Nat.ble 11 pc) (cond (Nat.ble 17 pc) (cond (Nat.ble 23 pc) (cond (Nat.ble 26 pc) ((26, .return_, 1, 0, 0, (0), (0), [], 0)) ((23, .goto (-21), 3, 2, 0, (0), (0), [], 0))) (cond (Nat.ble 20 pc) ((20, .iinc 2 1, 3, 2, 0, (1), (0), [], 0)) ((17, .invokevirtual 29, 3, 53, 2, (0), (0), [], 475)))) (cond (Nat.ble 13 pc) (cond (Nat.ble 16 pc) ((16, .i2b, 1, 0, 0, (0), (0), [], 0)) ((13, .invokevirtual 25, 3, 189, 2, (0), (0), [], 437))) (cond (Nat.ble 12 pc) ((12, .iload_n 2, 1, 2, 0, (0), (0), [], 0)) ((11, .aload_n 1, 1, 1, 0, (0), (0), [], 0))))) (cond (Nat.ble 3 pc) (cond (Nat.ble 7 pc) (cond (Nat.ble 10 pc) ((10, .aload_n 0, 1, 0, 0, (0), (0), [], 0)) ((7, .if_icmp .ge 19, 3, 26, 0, (0), (0), [], 0))) (cond (Nat.ble 4 pc) ((4, .invokevirtual 19, 3, 187, 1, (0), (0), [], 427)) ((3, .aload_n 1, 1, 1, 0, (0), (0), [], 0)))) (cond (Nat.ble 1 pc) (cond (Nat.ble 2 pc) ((2, .iload_n 2, 1, 2, 0, (0), (0), [], 0)) ((1, .istore_n 2, 1, 2, 0, (0), (0), [], 0))) ((0, .iconst 0, 1, 0, 0, (0), (0), [], 0))))
def pg_53 (pc : Nat) : RI := cond (Nat.ble 18 pc) (cond (Nat.ble 22 pc) (cond (Nat.ble 26 pc) (cond (Nat.ble 27 pc) (cond (Nat.ble 30 pc) ((30, .return_, 1, 0, 0, (0), (0), [], 0)) ((27, .putfield 15, 3, 9, 1, (0), (0), [], 191))) ((26, .iadd, 1, 0, 0, (0), (0), [], 0))) (cond (Nat.ble 25 pc) ((25, .iconst 1, 1, 0, 0, (1), (0), [], 0)) ((22, .getfield 15, 3, 9, 1, (0), (0), [], 191)))) (cond (Nat.ble 20 pc) (cond (Nat.ble 21 pc) ((21, .dup, 1, 0, 0, (0), (0), [], 0)) ((20, .aload_n 0, 1, 0, 0, (0), (0), [], 0))) (cond (Nat.ble 19 pc) ((19, .bastore, 1, 0, 0, (0), (0), [], 0)) ((18, .iload_n 1, 1, 1, 0, (0), (0), [], 0))))) (cond (Nat.ble 10 pc) (cond (Nat.ble 14 pc) (cond (Nat.ble 15 pc) ((15, .getfield 15, 3, 9, 1, (0), (0), [], 191)) ((14, .aload_n 0, 1, 0, 0, (0), (0), [], 0))) (cond (Nat.ble 11 pc) ((11, .getfield 9, 3, 9, 0, (0), (0), [], 190)) ((10, .aload_n 0, 1, 0, 0, (0), (0), [], 0)))) (cond (Nat.ble 4 pc) (cond (Nat.ble 7 pc) ((7, .if_icmp .ge 23, 3, 30, 0, (0), (0), [], 0)) ((4, .sipush 160, 3, 0, 0, (160), (0), [], 0))) (cond (Nat.ble 1 pc) ((1, .getfield 15, 3, 9, 1, (0), (0), [], 191)) ((0, .aload_n 0, 1, 0, 0, (0), (0), [], 0)))))
def pg_54 (pc : Nat) : RI := cond (Nat.ble 5 pc) (cond (Nat.ble 6 pc) (cond (Nat.ble 9 pc) ((9, .return_, 1, 0, 0, (0), (0), [], 0)) ((6, .invokevirtual 36, 3, 55, 1, (0), (0), [], 491))) ((5, .aload_n 0, 1, 0, 0, (0), (0), [], 0))) (cond (Nat.ble 1 pc) (cond (Nat.ble 2 pc) ((2, .putfield 33, 3, 9, 2, (0), (0), [], 193)) ((1, .iconst 0, 1, 0, 0, (0), (0), [], 0))) ((0, .aload_n 0, 1, 0, 0, (0), (0), [], 0)))
def pg_55 (pc : Nat) : RI := cond (Nat.ble 55 pc) (cond (Nat.ble 85 pc) (cond (Nat.ble 100 pc) (cond (Nat.ble 107 pc) (cond (Nat.ble 111 pc) (cond (Nat.ble 114 pc) ((114, .return_, 1, 0, 0, (0), (0), [], 0)) ((111, .invokevirtual 61, 3, 61, 1, (0), (0), [], 513))) (cond (Nat.ble 110 pc) ((110, .aload_n 0, 1, 0, 0, (0), (0), [], 0)) ((107, .goto 7, 3, 114, 0, (0), (0), [], 0)))) (cond (Nat.ble 103 pc) (cond (Nat.ble 104 pc) ((104, .invokevirtual 58, 3, 60, 1, (0), (0), [], 509)) ((103, .aload_n 0, 1, 0, 0, (0), (0), [], 0))) ((100, .ifCond .eq 10, 3, 110, 0, (0), (0), [], 0)))) (cond (Nat.ble 92 pc) (cond (Nat.ble 96 pc) (cond (Nat.ble 97 pc) ((97, .invokestatic 55, 3, 59, 1, (0), (0), [], 506)) ((96, .baload, 1, 0, 0, (0), (0), [], 0))) (cond (Nat.ble 93 pc) ((93, .getfield 33, 3, 9, 2, (0), (0), [], 193)) ((92, .aload_n 0, 1, 0, 0, (0), (0), [], 0)))) (cond (Nat.ble 88 pc) (cond (Nat.ble 89 pc) ((89, .getfield 9, 3, 9, 0, (0), (0), [], 190)) ((88, .aload_n 0, 1, 0, 0, (0), (0), [], 0))) ((85, .goto 29, 3, 114, 0, (0), (0), [], 0))))) (cond (Nat.ble 70 pc) (cond (Nat.ble 75 pc) (cond (Nat.ble 81 pc) (cond (Nat.ble 82 pc) ((82, .invokevirtual 52, 3, 58, 1, (0), (0), [], 501)) ((81, .aload_n 0, 1, 0, 0, (0), (0), [], 0))) (cond (Nat.ble 78 pc) ((78, .ifCond .eq 10, 3, 88, 0, (0), (0), [], 0)) ((75, .invokestatic 49, 3, 57, 1, (0), (0), [], 498)))) (cond (Nat.ble 71 pc) (cond (Nat.ble 74 pc) ((74, .baload, 1, 0, 0, (0), (0), [], 0)) ((71, .getfield 33, 3, 9, 2, (0), (0), [], 193))) ((70, .aload_n 0, 1, 0, 0, (0), (0), [], 0)))) (cond (Nat.ble 60 pc) (cond (Nat.ble 66 pc) (cond (Nat.ble 67 pc) ((67, .getfield 9, 3, 9, 0, (0), (0), [], 190)) ((66, .aload_n 0, 1, 0, 0, (0), (0), [], 0))) (cond (Nat.ble 63 pc) ((63, .goto 51, 3, 114, 0, (0), (0), [], 0)) ((60, .putfield 46, 3, 9, 3, (0), (0), [], 195)))) (cond (Nat.ble 58 pc) (cond (Nat.ble 59 pc) ((59, .iconst 0, 1, 0, 0, (0), (0), [], 0)) ((58, .aload_n 0, 1, 0, 0, (0), (0), [], 0))) ((55, .if_icmp .lt 11, 3, 66, 0, (0), (0), [], 0)))))) (cond (Nat.ble 27 pc) (cond (Nat.ble 40 pc) (cond (Nat.ble 47 pc) (cond (Nat.ble 51 pc) (cond (Nat.ble 52 pc) ((52, .getfield 15, 3, 9, 1, (0), (0), [], 191)) ((51, .aload_n 0, 1, 0, 0, (0), (0), [], 0))) (cond (Nat.ble 48 pc) ((48, .getfield 33, 3, 9, 2, (0), (0), [], 193)) ((47, .aload_n 0, 1, 0, 0, (0), (0), [], 0)))) (cond (Nat.ble 41 pc) (cond (Nat.ble 44 pc) ((44, .putfield 43, 3, 9, 4, (0), (0), [], 196)) ((41, .getfield 33, 3, 9, 2, (0), (0), [], 193))) ((40, .aload_n 0, 1, 0, 0, (0), (0), [], 0)))) (cond (Nat.ble 32 pc) (cond (Nat.ble 36 pc) (cond (Nat.ble 39 pc) ((39, .aload_n 0, 1, 0, 0, (0), (0), [], 0)) ((36, .goto (-36), 3, 0, 0, (0), (0), [], 0))) (cond (Nat.ble 33 pc) ((33, .putfield 33, 3, 9, 2, (0), (0), [], 193)) ((32, .iadd, 1, 0, 0, (0), (0), [], 0)))) (cond (Nat.ble 28 pc) (cond (Nat.ble 31 pc) ((31, .iconst 1, 1, 0, 0, (1), (0), [], 0)) ((28, .getfield 33, 3, 9, 2, (0), (0), [], 193))) ((27, .dup, 1, 0, 0, (0), (0), [], 0))))) (cond (Nat.ble 12 pc) (cond (Nat.ble 19 pc) (cond (Nat.ble 23 pc) (cond (Nat.ble 26 pc) ((26, .aload_n 0, 1, 0, 0, (0), (0), [], 0)) ((23, .ifCond .eq 16, 3, 39, 0, (0), (0), [], 0))) (cond (Nat.ble 20 pc) ((20, .invokestatic 39, 3, 56, 1, (0), (0), [], 495)) ((19, .baload, 1, 0, 0, (0), (0), [], 0)))) (cond (Nat.ble 15 pc) (cond (Nat.ble 16 pc) ((16, .getfield 33, 3, 9, 2, (0), (0), [], 193)) ((15, .aload_n 0, 1, 0, 0, (0), (0), [], 0))) ((12, .getfield 9, 3, 9, 0, (0), (0), [], 190)))) (cond (Nat.ble 5 pc) (cond (Nat.ble 8 pc) (cond (Nat.ble 11 pc) ((11, .aload_n 0, 1, 0, 0, (0), (0), [], 0)) ((8, .if_icmp .ge 31, 3, 39, 0, (0), (0), [], 0))) ((5, .getfield 15, 3, 9, 1, (0), (0), [], 191))) (cond (Nat.ble 1 pc) (cond (Nat.ble 4 pc) ((4, .aload_n 0, 1, 0, 0, (0), (0), [], 0)) ((1, .getfield 33, 3, 9, 2, (0), (0), [], 193))) ((0, .aload_n 0, 1, 0, 0, (0), (0), [], 0))))))
def pg_56 (pc : Nat) : RI := cond (Nat.ble 9 pc) (cond (Nat.ble 13 pc) (cond (Nat.ble 16 pc) (cond (Nat.ble 17 pc) ((17, .ireturn, 1, 1, 0, (0), (0), [], 0)) ((16, .iconst 0, 1, 0, 0, (0), (0), [], 0))) ((13, .goto 4, 3, 17, 0, (0), (0), [], 0))) (cond (Nat.ble 12 pc) ((12, .iconst 1, 1, 0, 0, (1), (0), [], 0)) ((9, .if_icmp .ne 7, 3, 16, 0, (0), (0), [], 0)))) (cond (Nat.ble 3 pc) (cond (Nat.ble 6 pc) (cond (Nat.ble 7 pc) ((7, .bipush 10, 2, 0, 0, (10), (0), [], 0)) ((6, .iload_n 0, 1, 0, 0, (0), (0), [], 0))) ((3, .if_icmp .eq 9, 3, 12, 0, (0), (0), [], 0))) (cond (Nat.ble 1 pc) ((1, .bipush 32, 2, 0, 0, (32), (0), [], 0)) ((0, .iload_n 0, 1, 0, 0, (0), (0), [], 0))))
def pg_57 (pc : Nat) : RI := cond (Nat.ble 9 pc) (cond (Nat.ble 13 pc) (cond (Nat.ble 16 pc) (cond (Nat.ble 17 pc) ((17, .ireturn, 1, 1, 0, (0), (0), [], 0)) ((16, .iconst 0, 1, 0, 0, (0), (0), [], 0))) ((13, .goto 4, 3, 17, 0, (0), (0), [], 0))) (cond (Nat.ble 12 pc) ((12, .iconst 1, 1, 0, 0, (1), (0), [], 0)) ((9, .if_icmp .gt 7, 3, 16, 0, (0), (0), [], 0)))) (cond (Nat.ble 3 pc) (cond (Nat.ble 6 pc) (cond (Nat.ble 7 pc) ((7, .bipush 122, 2, 0, 0, (122), (0), [], 0)) ((6, .iload_n 0, 1, 0, 0, (0), (0), [], 0))) ((3, .if_icmp .lt 13, 3, 16, 0, (0), (0), [], 0))) (cond (Nat.ble 1 pc) ((1, .bipush 97, 2, 0, 0, (97), (0), [], 0)) ((0, .iload_n 0, 1, 0, 0, (0), (0), [], 0))))
def pg_58 (pc : Nat) : RI := cond (Nat.ble 77 pc) (cond (Nat.ble 117 pc) (cond (Nat.ble 135 pc) (cond (Nat.ble 146 pc) (cond (Nat.ble 148 pc) (cond (Nat.ble 151 pc) (cond (Nat.ble 154 pc) ((154, .return_, 1, 0, 0, (0), (0), [], 0)) ((151, .goto (-95), 3, 56, 0, (0), (0), [], 0))) ((148, .iinc 4 1, 3, 4, 0, (1), (0), [], 0))) (cond (Nat.ble 147 pc) ((147, .istore_n 3, 1, 3, 0, (0), (0), [], 0)) ((146, .iconst 1, 1, 0, 0, (1), (0), [], 0)))) (cond (Nat.ble 141 pc) (cond (Nat.ble 142 pc) (cond (Nat.ble 145 pc) ((145, .istore_n 2, 1, 2, 0, (0), (0), [], 0)) ((142, .getfield 43, 3, 9, 4, (0), (0), [], 196))) ((141, .aload_n 0, 1, 0, 0, (0), (0), [], 0))) (cond (Nat.ble 138 pc) ((138, .iinc 1 1, 3, 1, 0, (1), (0), [], 0)) ((135, .putfield 46, 3, 9, 3, (0), (0), [], 195))))) (cond (Nat.ble 126 pc) (cond (Nat.ble 130 pc) (cond (Nat.ble 133 pc) (cond (Nat.ble 134 pc) ((134, .iadd, 1, 0, 0, (0), (0), [], 0)) ((133, .iload_n 1, 1, 1, 0, (0), (0), [], 0))) ((130, .sipush 128, 3, 0, 0, (128), (0), [], 0))) (cond (Nat.ble 129 pc) ((129, .aload_n 0, 1, 0, 0, (0), (0), [], 0)) ((126, .if_icmp .ne 12, 3, 138, 0, (0), (0), [], 0)))) (cond (Nat.ble 121 pc) (cond (Nat.ble 122 pc) (cond (Nat.ble 123 pc) ((123, .getfield 33, 3, 9, 2, (0), (0), [], 193)) ((122, .aload_n 0, 1, 0, 0, (0), (0), [], 0))) ((121, .iload_n 2, 1, 2, 0, (0), (0), [], 0))) (cond (Nat.ble 118 pc) ((118, .ifCond .eq 20, 3, 138, 0, (0), (0), [], 0)) ((117, .iload_n 3, 1, 3, 0, (0), (0), [], 0)))))) (cond (Nat.ble 98 pc) (cond (Nat.ble 106 pc) (cond (Nat.ble 110 pc) (cond (Nat.ble 111 pc) (cond (Nat.ble 114 pc) ((114, .goto 34, 3, 148, 0, (0), (0), [], 0)) ((111, .iinc 2 1, 3, 2, 0, (1), (0), [], 0))) ((110, .istore_n 3, 1, 3, 0, (0), (0), [], 0))) (cond (Nat.ble 109 pc) ((109, .iconst 0, 1, 0, 0, (0), (0), [], 0)) ((106, .goto 4, 3, 110, 0, (0), (0), [], 0)))) (cond (Nat.ble 100 pc) (cond (Nat.ble 102 pc) (cond (Nat.ble 105 pc) ((105, .iconst 1, 1, 0, 0, (1), (0), [], 0)) ((102, .if_icmp .ne 7, 3, 109, 0, (0), (0), [], 0))) ((100, .iload 5, 2, 5, 0, (0), (0), [], 0))) (cond (Nat.ble 99 pc) ((99, .baload, 1, 0, 0, (0), (0), [], 0)) ((98, .iload_n 2, 1, 2, 0, (0), (0), [], 0))))) (cond (Nat.ble 87 pc) (cond (Nat.ble 91 pc) (cond (Nat.ble 94 pc) (cond (Nat.ble 95 pc) ((95, .getfield 9, 3, 9, 0, (0), (0), [], 190)) ((94, .aload_n 0, 1, 0, 0, (0), (0), [], 0))) ((91, .if_icmp .ge 18, 3, 109, 0, (0), (0), [], 0))) (cond (Nat.ble 88 pc) ((88, .getfield 33, 3, 9, 2, (0), (0), [], 193)) ((87, .aload_n 0, 1, 0, 0, (0), (0), [], 0)))) (cond (Nat.ble 82 pc) (cond (Nat.ble 83 pc) (cond (Nat.ble 86 pc) ((86, .iload_n 2, 1, 2, 0, (0), (0), [], 0)) ((83, .ifCond .eq 26, 3, 109, 0, (0), (0), [], 0))) ((82, .iload_n 3, 1, 3, 0, (0), (0), [], 0))) (cond (Nat.ble 79 pc) ((79, .if_icmp .eq 38, 3, 117, 0, (0), (0), [], 0)) ((77, .bipush 32, 2, 0, 0, (32), (0), [], 0))))))) (cond (Nat.ble 40 pc) (cond (Nat.ble 54 pc) (cond (Nat.ble 66 pc) (cond (Nat.ble 70 pc) (cond (Nat.ble 73 pc) (cond (Nat.ble 75 pc) ((75, .iload 5, 2, 5, 0, (0), (0), [], 0)) ((73, .istore 5, 2, 5, 0, (0), (0), [], 0))) ((70, .invokevirtual 25, 3, 189, 2, (0), (0), [], 437))) (cond (Nat.ble 68 pc) ((68, .iload 4, 2, 4, 0, (0), (0), [], 0)) ((66, .ldc 64, 2, 100, 1, (0), (0), [], 505)))) (cond (Nat.ble 58 pc) (cond (Nat.ble 60 pc) (cond (Nat.ble 63 pc) ((63, .if_icmp .ge 91, 3, 154, 0, (0), (0), [], 0)) ((60, .invokevirtual 19, 3, 187, 1, (0), (0), [], 427))) ((58, .ldc 64, 2, 100, 1, (0), (0), [], 505))) (cond (Nat.ble 56 pc) ((56, .iload 4, 2, 4, 0, (0), (0), [], 0)) ((54, .istore 4, 2, 4, 0, (0), (0), [], 0))))) (cond (Nat.ble 47 pc) (cond (Nat.ble 51 pc) (cond (Nat.ble 52 pc) (cond (Nat.ble 53 pc) ((53, .iconst 0, 1, 0, 0, (0), (0), [], 0)) ((52, .istore_n 3, 1, 3, 0, (0), (0), [], 0))) ((51, .iconst 1, 1, 0, 0, (1), (0), [], 0))) (cond (Nat.ble 50 pc) ((50, .istore_n 2, 1, 2, 0, (0), (0), [], 0)) ((47, .getfield 43, 3, 9, 4, (0), (0), [], 196)))) (cond (Nat.ble 44 pc) (cond (Nat.ble 45 pc) (cond (Nat.ble 46 pc) ((46, .aload_n 0, 1, 0, 0, (0), (0), [], 0)) ((45, .istore_n 1, 1, 1, 0, (0), (0), [], 0))) ((44, .iconst 0, 1, 0, 0, (0), (0), [], 0))) (cond (Nat.ble 41 pc) ((41, .putfield 46, 3, 9, 3, (0), (0), [], 195)) ((40, .iconst 1, 1, 0, 0, (1), (0), [], 0)))))) (cond (Nat.ble 20 pc) (cond (Nat.ble 31 pc) (cond (Nat.ble 33 pc) (cond (Nat.ble 36 pc) (cond (Nat.ble 39 pc) ((39, .aload_n 0, 1, 0, 0, (0), (0), [], 0)) ((36, .goto (-36), 3, 0, 0, (0), (0), [], 0))) ((33, .putfield 33, 3, 9, 2, (0), (0), [], 193))) (cond (Nat.ble 32 pc) ((32, .iadd, 1, 0, 0, (0), (0), [], 0)) ((31, .iconst 1, 1, 0, 0, (1), (0), [], 0)))) (cond (Nat.ble 26 pc) (cond (Nat.ble 27 pc) (cond (Nat.ble 28 pc) ((28, .getfield 33, 3, 9, 2, (0), (0), [], 193)) ((27, .dup, 1, 0, 0, (0), (0), [], 0))) ((26, .aload_n 0, 1, 0, 0, (0), (0), [], 0))) (cond (Nat.ble 23 pc) ((23, .ifCond .eq 16, 3, 39, 0, (0), (0), [], 0)) ((20, .invokestatic 49, 3, 57, 1, (0), (0), [], 498))))) (cond (Nat.ble 11 pc) (cond (Nat.ble 15 pc) (cond (Nat.ble 16 pc) (cond (Nat.ble 19 pc) ((19, .baload, 1, 0, 0, (0), (0), [], 0)) ((16, .getfield 33, 3, 9, 2, (0), (0), [], 193))) ((15, .aload_n 0, 1, 0, 0, (0), (0), [], 0))) (cond (Nat.ble 12 pc) ((12, .getfield 9, 3, 9, 0, (0), (0), [], 190)) ((11, .aload_n 0, 1, 0, 0, (0), (0), [], 0)))) (cond (Nat.ble 4 pc) (cond (Nat.ble 5 pc) (cond (Nat.ble 8 pc) ((8, .if_icmp .ge 31, 3, 39, 0, (0), (0), [], 0)) ((5, .getfield 15, 3, 9, 1, (0), (0), [], 191))) ((4, .aload_n 0, 1, 0, 0, (0), (0), [], 0))) (cond (Nat.ble 1 pc) ((1, .getfield 33, 3, 9, 2, (0), (0), [], 193)) ((0, .aload_n 0, 1, 0, 0, (0), (0), [], 0)))))))
def pg_59 (pc : Nat) : RI := cond (Nat.ble 9 pc) (cond (Nat.ble 13 pc) (cond (Nat.ble 16 pc) (cond (Nat.ble 17 pc) ((17, .ireturn, 1, 1, 0, (0), (0), [], 0)) ((16, .iconst 0, 1, 0, 0, (0), (0), [], 0))) ((13, .goto 4, 3, 17, 0, (0), (0), [], 0))) (cond (Nat.ble 12 pc) ((12, .iconst 1, 1, 0, 0, (1), (0), [], 0)) ((9, .if_icmp .gt 7, 3, 16, 0, (0), (0), [], 0)))) (cond (Nat.ble 3 pc) (cond (Nat.ble 6 pc) (cond (Nat.ble 7 pc) ((7, .bipush 57, 2, 0, 0, (57), (0), [], 0)) ((6, .iload_n 0, 1, 0, 0, (0), (0), [], 0))) ((3, .if_icmp .lt 13, 3, 16, 0, (0), (0), [], 0))) (cond (Nat.ble 1 pc) ((1, .bipush 48, 2, 0, 0, (48), (0), [], 0)) ((0, .iload_n 0, 1, 0, 0, (0), (0), [], 0))))
def pg_60 (pc : Nat) : RI := cond (Nat.ble 53 pc) (cond (Nat.ble 78 pc) (cond (Nat.ble 91 pc) (cond (Nat.ble 96 pc) (cond (Nat.ble 100 pc) (cond (Nat.ble 103 pc) ((103, .return_, 1, 0, 0, (0), (0), [], 0)) ((100, .putfield 46, 3, 9, 3, (0), (0), [], 195))) (cond (Nat.ble 99 pc) ((99, .iconst 2, 1, 0, 0, (2), (0), [], 0)) ((96, .goto 4, 3, 100, 0, (0), (0), [], 0)))) (cond (Nat.ble 92 pc) (cond (Nat.ble 95 pc) ((95, .iconst 1, 1, 0, 0, (1), (0), [], 0)) ((92, .if_icmp .le 7, 3, 99, 0, (0), (0), [], 0))) ((91, .iconst 4, 1, 0, 0, (4), (0), [], 0)))) (cond (Nat.ble 83 pc) (cond (Nat.ble 87 pc) (cond (Nat.ble 90 pc) ((90, .isub, 1, 0, 0, (0), (0), [], 0)) ((87, .getfield 43, 3, 9, 4, (0), (0), [], 196))) (cond (Nat.ble 86 pc) ((86, .aload_n 0, 1, 0, 0, (0), (0), [], 0)) ((83, .getfield 33, 3, 9, 2, (0), (0), [], 193)))) (cond (Nat.ble 81 pc) (cond (Nat.ble 82 pc) ((82, .aload_n 0, 1, 0, 0, (0), (0), [], 0)) ((81, .aload_n 0, 1, 0, 0, (0), (0), [], 0))) ((78, .goto (-73), 3, 5, 0, (0), (0), [], 0))))) (cond (Nat.ble 65 pc) (cond (Nat.ble 70 pc) (cond (Nat.ble 74 pc) (cond (Nat.ble 75 pc) ((75, .putfield 33, 3, 9, 2, (0), (0), [], 193)) ((74, .iadd, 1, 0, 0, (0), (0), [], 0))) (cond (Nat.ble 73 pc) ((73, .iconst 1, 1, 0, 0, (1), (0), [], 0)) ((70, .getfield 33, 3, 9, 2, (0), (0), [], 193)))) (cond (Nat.ble 68 pc) (cond (Nat.ble 69 pc) ((69, .dup, 1, 0, 0, (0), (0), [], 0)) ((68, .aload_n 0, 1, 0, 0, (0), (0), [], 0))) ((65, .putfield 66, 3, 9, 5, (0), (0), [], 198)))) (cond (Nat.ble 60 pc) (cond (Nat.ble 62 pc) (cond (Nat.ble 64 pc) ((64, .isub, 1, 0, 0, (0), (0), [], 0)) ((62, .bipush 48, 2, 0, 0, (48), (0), [], 0))) (cond (Nat.ble 61 pc) ((61, .iadd, 1, 0, 0, (0), (0), [], 0)) ((60, .baload, 1, 0, 0, (0), (0), [], 0)))) (cond (Nat.ble 56 pc) (cond (Nat.ble 57 pc) ((57, .getfield 33, 3, 9, 2, (0), (0), [], 193)) ((56, .aload_n 0, 1, 0, 0, (0), (0), [], 0))) ((53, .getfield 9, 3, 9, 0, (0), (0), [], 190)))))) (cond (Nat.ble 28 pc) (cond (Nat.ble 41 pc) (cond (Nat.ble 46 pc) (cond (Nat.ble 51 pc) (cond (Nat.ble 52 pc) ((52, .aload_n 0, 1, 0, 0, (0), (0), [], 0)) ((51, .imul, 1, 0, 0, (0), (0), [], 0))) (cond (Nat.ble 49 pc) ((49, .bipush 10, 2, 0, 0, (10), (0), [], 0)) ((46, .getfield 66, 3, 9, 5, (0), (0), [], 198)))) (cond (Nat.ble 44 pc) (cond (Nat.ble 45 pc) ((45, .aload_n 0, 1, 0, 0, (0), (0), [], 0)) ((44, .aload_n 0, 1, 0, 0, (0), (0), [], 0))) ((41, .if_icmp .ge 27, 3, 68, 0, (0), (0), [], 0)))) (cond (Nat.ble 35 pc) (cond (Nat.ble 39 pc) (cond (Nat.ble 40 pc) ((40, .iconst 4, 1, 0, 0, (4), (0), [], 0)) ((39, .isub, 1, 0, 0, (0), (0), [], 0))) (cond (Nat.ble 36 pc) ((36, .getfield 43, 3, 9, 4, (0), (0), [], 196)) ((35, .aload_n 0, 1, 0, 0, (0), (0), [], 0)))) (cond (Nat.ble 31 pc) (cond (Nat.ble 32 pc) ((32, .getfield 33, 3, 9, 2, (0), (0), [], 193)) ((31, .aload_n 0, 1, 0, 0, (0), (0), [], 0))) ((28, .ifCond .eq 53, 3, 81, 0, (0), (0), [], 0))))) (cond (Nat.ble 13 pc) (cond (Nat.ble 20 pc) (cond (Nat.ble 24 pc) (cond (Nat.ble 25 pc) ((25, .invokestatic 55, 3, 59, 1, (0), (0), [], 506)) ((24, .baload, 1, 0, 0, (0), (0), [], 0))) (cond (Nat.ble 21 pc) ((21, .getfield 33, 3, 9, 2, (0), (0), [], 193)) ((20, .aload_n 0, 1, 0, 0, (0), (0), [], 0)))) (cond (Nat.ble 16 pc) (cond (Nat.ble 17 pc) ((17, .getfield 9, 3, 9, 0, (0), (0), [], 190)) ((16, .aload_n 0, 1, 0, 0, (0), (0), [], 0))) ((13, .if_icmp .ge 68, 3, 81, 0, (0), (0), [], 0)))) (cond (Nat.ble 5 pc) (cond (Nat.ble 9 pc) (cond (Nat.ble 10 pc) ((10, .getfield 15, 3, 9, 1, (0), (0), [], 191)) ((9, .aload_n 0, 1, 0, 0, (0), (0), [], 0))) (cond (Nat.ble 6 pc) ((6, .getfield 33, 3, 9, 2, (0), (0), [], 193)) ((5, .aload_n 0, 1, 0, 0, (0), (0), [], 0)))) (cond (Nat.ble 1 pc) (cond (Nat.ble 2 pc) ((2, .putfield 66, 3, 9, 5, (0), (0), [], 198)) ((1, .iconst 0, 1, 0, 0, (0), (0), [], 0))) ((0, .aload_n 0, 1, 0, 0, (0), (0), [], 0))))))
def pg_61 (pc : Nat) : RI := cond (Nat.ble 19 pc) (cond (Nat.ble 33 pc) (cond (Nat.ble 38 pc) (cond (Nat.ble 40 pc) (cond (Nat.ble 43 pc) ((43, .return_, 1, 0, 0, (0), (0), [], 0)) ((40, .putfield 33, 3, 9, 2, (0), (0), [], 193))) (cond (Nat.ble 39 pc) ((39, .iadd, 1, 0, 0, (0), (0), [], 0)) ((38, .iconst 1, 1, 0, 0, (1), (0), [], 0)))) (cond (Nat.ble 34 pc) (cond (Nat.ble 35 pc) ((35, .getfield 33, 3, 9, 2, (0), (0), [], 193)) ((34, .dup, 1, 0, 0, (0), (0), [], 0))) ((33, .aload_n 0, 1, 0, 0, (0), (0), [], 0)))) (cond (Nat.ble 26 pc) (cond (Nat.ble 29 pc) (cond (Nat.ble 30 pc) ((30, .putfield 46, 3, 9, 3, (0), (0), [], 195)) ((29, .iconst 1, 1, 0, 0, (1), (0), [], 0))) ((26, .goto 4, 3, 30, 0, (0), (0), [], 0))) (cond (Nat.ble 22 pc) (cond (Nat.ble 25 pc) ((25, .iload_n 1, 1, 1, 0, (0), (0), [], 0)) ((22, .ifCond .lt 7, 3, 29, 0, (0), (0), [], 0))) ((19, .invokevirtual 71, 3, 194, 2, (0), (0), [], 518))))) (cond (Nat.ble 10 pc) (cond (Nat.ble 15 pc) (cond (Nat.ble 17 pc) (cond (Nat.ble 18 pc) ((18, .i2c, 1, 0, 0, (0), (0), [], 0)) ((17, .iload_n 1, 1, 1, 0, (0), (0), [], 0))) ((15, .ldc 69, 2, 100, 2, (0), (0), [], 517))) (cond (Nat.ble 11 pc) (cond (Nat.ble 12 pc) ((12, .ifCond .le 17, 3, 29, 0, (0), (0), [], 0)) ((11, .iload_n 1, 1, 1, 0, (0), (0), [], 0))) ((10, .aload_n 0, 1, 0, 0, (0), (0), [], 0)))) (cond (Nat.ble 5 pc) (cond (Nat.ble 8 pc) (cond (Nat.ble 9 pc) ((9, .istore_n 1, 1, 1, 0, (0), (0), [], 0)) ((8, .baload, 1, 0, 0, (0), (0), [], 0))) ((5, .getfield 33, 3, 9, 2, (0), (0), [], 193))) (cond (Nat.ble 1 pc) (cond (Nat.ble 4 pc) ((4, .aload_n 0, 1, 0, 0, (0), (0), [], 0)) ((1, .getfield 9, 3, 9, 0, (0), (0), [], 190))) ((0, .aload_n 0, 1, 0, 0, (0), (0), [], 0)))))
def pg_62 (pc : Nat) : RI := cond (Nat.ble 2 pc) (cond (Nat.ble 5 pc) ((5, .return_, 1, 0, 0, (0), (0), [], 0)) ((2, .putfield 15, 3, 9, 1, (0), (0), [], 191))) (cond (Nat.ble 1 pc) ((1, .iconst 0, 1, 0, 0, (0), (0), [], 0)) ((0, .aload_n 0, 1, 0, 0, (0), (0), [], 0)))
def pg_63 (pc : Nat) : RI := cond (Nat.ble 11 pc) (cond (Nat.ble 16 pc) (cond (Nat.ble 19 pc) (cond (Nat.ble 20 pc) ((20, .ireturn, 1, 1, 0, (0), (0), [], 0)) ((19, .iconst 0, 1, 0, 0, (0), (0), [], 0))) ((16, .goto 4, 3, 20, 0, (0), (0), [], 0))) (cond (Nat.ble 12 pc) (cond (Nat.ble 15 pc) ((15, .iconst 1, 1, 0, 0, (1), (0), [], 0)) ((12, .if_icmp .ne 7, 3, 19, 0, (0), (0), [], 0))) ((11, .iload_n 1, 1, 1, 0, (0), (0), [], 0)))) (cond (Nat.ble 4 pc) (cond (Nat.ble 7 pc) (cond (Nat.ble 8 pc) ((8, .getfield 15, 3, 10, 1, (0), (0), [], 362)) ((7, .aload_n 0, 1, 0, 0, (0), (0), [], 0))) ((4, .ifCond .ne 15, 3, 19, 0, (0), (0), [], 0))) (cond (Nat.ble 1 pc) ((1, .getfield 27, 3, 10, 7, (0), (0), [(0, 0)], 372)) ((0, .aload_n 0, 1, 0, 0, (0), (0), [], 0))))
def pg_64 (pc : Nat) : RI := cond (Nat.ble 10 pc) (cond (Nat.ble 17 pc) (cond (Nat.ble 18 pc) (cond (Nat.ble 21 pc) ((21, .return_, 1, 0, 0, (0), (0), [], 0)) ((18, .putfield 27, 3, 10, 7, (0), (0), [(0, 0)], 372))) ((17, .iconst 1, 1, 0, 0, (1), (0), [], 0))) (cond (Nat.ble 13 pc) (cond (Nat.ble 16 pc) ((16, .aload_n 0, 1, 0, 0, (0), (0), [], 0)) ((13, .goto 8, 3, 21, 0, (0), (0), [], 0))) ((10, .putfield 15, 3, 10, 1, (0), (0), [], 362)))) (cond (Nat.ble 5 pc) (cond (Nat.ble 8 pc) (cond (Nat.ble 9 pc) ((9, .iconst (-1), 1, 0, 0, (-1), (0), [], 0)) ((8, .aload_n 0, 1, 0, 0, (0), (0), [], 0))) ((5, .if_icmp .ne 11, 3, 16, 0, (0), (0), [], 0))) (cond (Nat.ble 1 pc) (cond (Nat.ble 4 pc) ((4, .iconst 2, 1, 0, 0, (2), (0), [], 0)) ((1, .getfield 9, 3, 10, 0, (0), (0), [], 360))) ((0, .aload_n 0, 1, 0, 0, (0), (0), [], 0))))
def pg_65 (pc : Nat) : RI := cond (Nat.ble 30 pc) (cond (Nat.ble 49 pc) (cond (Nat.ble 57 pc) (cond (Nat.ble 60 pc) (cond (Nat.ble 61 pc) (cond (Nat.ble 64 pc) ((64, .return_, 1, 0, 0, (0), (0), [], 0)) ((61, .putfield 24, 3, 10, 4, (0), (0), [], 368))) ((60, .iadd, 1, 0, 0, (0), (0), [], 0))) (cond (Nat.ble 59 pc) ((59, .idiv, 1, 0, 0, (0), (0), [], 0)) ((57, .bipush 10, 2, 0, 0, (10), (0), [], 0)))) (cond (Nat.ble 53 pc) (cond (Nat.ble 54 pc) ((54, .getfield 18, 3, 10, 2, (0), (0), [], 364)) ((53, .aload_n 0, 1, 0, 0, (0), (0), [], 0))) (cond (Nat.ble 50 pc) ((50, .getfield 18, 3, 10, 2, (0), (0), [], 364)) ((49, .aload_n 0, 1, 0, 0, (0), (0), [], 0))))) (cond (Nat.ble 40 pc) (cond (Nat.ble 44 pc) (cond (Nat.ble 45 pc) (cond (Nat.ble 48 pc) ((48, .aload_n 0, 1, 0, 0, (0), (0), [], 0)) ((45, .if_icmp .ne 19, 3, 64, 0, (0), (0), [], 0))) ((44, .iconst 5, 1, 0, 0, (5), (0), [], 0))) (cond (Nat.ble 41 pc) ((41, .getfield 9, 3, 10, 0, (0), (0), [], 360)) ((40, .aload_n 0, 1, 0, 0, (0), (0), [], 0)))) (cond (Nat.ble 34 pc) (cond (Nat.ble 37 pc) ((37, .goto 27, 3, 64, 0, (0), (0), [], 0)) ((34, .putfield 24, 3, 10, 4, (0), (0), [], 368))) (cond (Nat.ble 31 pc) ((31, .getfield 18, 3, 10, 2, (0), (0), [], 364)) ((30, .aload_n 0, 1, 0, 0, (0), (0), [], 0)))))) (cond (Nat.ble 12 pc) (cond (Nat.ble 21 pc) (cond (Nat.ble 25 pc) (cond (Nat.ble 26 pc) (cond (Nat.ble 29 pc) ((29, .aload_n 0, 1, 0, 0, (0), (0), [], 0)) ((26, .if_icmp .ne 14, 3, 40, 0, (0), (0), [], 0))) ((25, .iconst 2, 1, 0, 0, (2), (0), [], 0))) (cond (Nat.ble 22 pc) ((22, .getfield 9, 3, 10, 0, (0), (0), [], 360)) ((21, .aload_n 0, 1, 0, 0, (0), (0), [], 0)))) (cond (Nat.ble 16 pc) (cond (Nat.ble 18 pc) ((18, .putfield 21, 3, 10, 3, (0), (0), [], 366)) ((16, .iload 4, 2, 4, 0, (0), (0), [], 0))) (cond (Nat.ble 15 pc) ((15, .aload_n 0, 1, 0, 0, (0), (0), [], 0)) ((12, .putfield 18, 3, 10, 2, (0), (0), [], 364))))) (cond (Nat.ble 6 pc) (cond (Nat.ble 10 pc) (cond (Nat.ble 11 pc) ((11, .iload_n 3, 1, 3, 0, (0), (0), [], 0)) ((10, .aload_n 0, 1, 0, 0, (0), (0), [], 0))) (cond (Nat.ble 7 pc) ((7, .putfield 15, 3, 10, 1, (0), (0), [], 362)) ((6, .iload_n 2, 1, 2, 0, (0), (0), [], 0)))) (cond (Nat.ble 2 pc) (cond (Nat.ble 5 pc) ((5, .aload_n 0, 1, 0, 0, (0), (0), [], 0)) ((2, .putfield 9, 3, 10, 0, (0), (0), [], 360))) (cond (Nat.ble 1 pc) ((1, .iload_n 1, 1, 1, 0, (0), (0), [], 0)) ((0, .aload_n 0, 1, 0, 0, (0), (0), [], 0))))))
def pg_66 (pc : Nat) : RI := cond (Nat.ble 14 pc) (cond (Nat.ble 22 pc) (cond (Nat.ble 26 pc) (cond (Nat.ble 27 pc) (cond (Nat.ble 30 pc) ((30, .ireturn, 1, 0, 0, (0), (0), [], 0)) ((27, .getfield 18, 3, 10, 2, (0), (0), [], 364))) ((26, .aload_n 0, 1, 0, 0, (0), (0), [], 0))) (cond (Nat.ble 23 pc) ((23, .goto 7, 3, 30, 0, (0), (0), [], 0)) ((22, .ineg, 1, 0, 0, (0), (0), [], 0)))) (cond (Nat.ble 18 pc) (cond (Nat.ble 19 pc) ((19, .getfield 18, 3, 10, 2, (0), (0), [], 364)) ((18, .aload_n 0, 1, 0, 0, (0), (0), [], 0))) (cond (Nat.ble 15 pc) ((15, .if_icmp .ne 11, 3, 26, 0, (0), (0), [], 0)) ((14, .iconst 2, 1, 0, 0, (2), (0), [], 0))))) (cond (Nat.ble 8 pc) (cond (Nat.ble 10 pc) (cond (Nat.ble 11 pc) ((11, .getfield 9, 3, 10, 0, (0), (0), [], 360)) ((10, .aload_n 0, 1, 0, 0, (0), (0), [], 0))) (cond (Nat.ble 9 pc) ((9, .ireturn, 1, 0, 0, (0), (0), [], 0)) ((8, .iconst 0, 1, 0, 0, (0), (0), [], 0)))) (cond (Nat.ble 4 pc) (cond (Nat.ble 5 pc) ((5, .if_icmp .ne 5, 3, 10, 0, (0), (0), [], 0)) ((4, .iconst 1, 1, 0, 0, (1), (0), [], 0))) (cond (Nat.ble 1 pc) ((1, .getfield 9, 3, 10, 0, (0), (0), [], 360)) ((0, .aload_n 0, 1, 0, 0, (0), (0), [], 0)))))
def pg_67 (pc : Nat) : RI := cond (Nat.ble 8 pc) (cond (Nat.ble 12 pc) (cond (Nat.ble 13 pc) ((13, .ireturn, 1, 1, 0, (0), (0), [], 0)) ((12, .iconst 0, 1, 0, 0, (0), (0), [], 0))) (cond (Nat.ble 9 pc) ((9, .goto 4, 3, 13, 0, (0), (0), [], 0)) ((8, .iconst 1, 1, 0, 0, (1), (0), [], 0)))) (cond (Nat.ble 4 pc) (cond (Nat.ble 5 pc) ((5, .if_icmp .ne 7, 3, 12, 0, (0), (0), [], 0)) ((4, .iconst (-1), 1, 0, 0, (-1), (0), [], 0))) (cond (Nat.ble 1 pc) ((1, .getfield 15, 3, 10, 1, (0), (0), [], 362)) ((0, .aload_n 0, 1, 0, 0, (0), (0), [], 0))))
def pg_68 (pc : Nat) : RI := cond (Nat.ble 19 pc) (cond (Nat.ble 29 pc) (cond (Nat.ble 34 pc) (cond (Nat.ble 37 pc) (cond (Nat.ble 38 pc) ((38, .ireturn, 1, 1, 0, (0), (0), [], 0)) ((37, .iconst 0, 1, 0, 0, (0), (0), [], 0))) ((34, .goto (-27), 3, 7, 0, (0), (0), [], 0))) (cond (Nat.ble 30 pc) (cond (Nat.ble 31 pc) ((31, .iinc 3 1, 3, 3, 0, (1), (0), [], 0)) ((30, .istore_n 2, 1, 2, 0, (0), (0), [], 0))) ((29, .iaload, 1, 0, 0, (0), (0), [], 0)))) (cond (Nat.ble 24 pc) (cond (Nat.ble 25 pc) (cond (Nat.ble 28 pc) ((28, .iload_n 2, 1, 2, 0, (0), (0), [], 0)) ((25, .getstatic 31, 3, 34, 0, (1), (0), [], 1084))) ((24, .ireturn, 1, 1, 0, (0), (0), [], 0))) (cond (Nat.ble 20 pc) (cond (Nat.ble 23 pc) ((23, .iconst 1, 1, 0, 0, (1), (0), [], 0)) ((20, .if_icmp .ne 5, 3, 25, 0, (0), (0), [], 0))) ((19, .iload_n 1, 1, 1, 0, (0), (0), [], 0))))) (cond (Nat.ble 8 pc) (cond (Nat.ble 14 pc) (cond (Nat.ble 15 pc) (cond (Nat.ble 18 pc) ((18, .iload_n 2, 1, 2, 0, (0), (0), [], 0)) ((15, .if_icmp .eq 22, 3, 37, 0, (0), (0), [], 0))) ((14, .iconst (-1), 1, 0, 0, (-1), (0), [], 0))) (cond (Nat.ble 10 pc) (cond (Nat.ble 13 pc) ((13, .iload_n 2, 1, 2, 0, (0), (0), [], 0)) ((10, .if_icmp .ge 27, 3, 37, 0, (0), (0), [], 0))) ((8, .bipush 6, 2, 0, 0, (6), (0), [], 0)))) (cond (Nat.ble 5 pc) (cond (Nat.ble 6 pc) (cond (Nat.ble 7 pc) ((7, .iload_n 3, 1, 3, 0, (0), (0), [], 0)) ((6, .istore_n 3, 1, 3, 0, (0), (0), [], 0))) ((5, .iconst 0, 1, 0, 0, (0), (0), [], 0))) (cond (Nat.ble 1 pc) (cond (Nat.ble 4 pc) ((4, .istore_n 2, 1, 2, 0, (0), (0), [], 0)) ((1, .getfield 9, 3, 10, 0, (0), (0), [], 360))) ((0, .aload_n 0, 1, 0, 0, (0), (0), [], 0)))))
def pg_69 (pc : Nat) : RI := cond (Nat.ble 36 pc) (cond (Nat.ble 54 pc) (cond (Nat.ble 63 pc) (cond (Nat.ble 67 pc) (cond (Nat.ble 68 pc) (cond (Nat.ble 69 pc) ((69, .ireturn, 1, 0, 0, (0), (0), [], 0)) ((68, .isub, 1, 0, 0, (0), (0), [], 0))) ((67, .iconst 1, 1, 0, 0, (1), (0), [], 0))) (cond (Nat.ble 64 pc) ((64, .getfield 311, 3, 11, 11, (0), (0), [], 671)) ((63, .aload_n 0, 1, 0, 0, (0), (0), [], 0)))) (cond (Nat.ble 58 pc) (cond (Nat.ble 59 pc) (cond (Nat.ble 60 pc) ((60, .putfield 311, 3, 11, 11, (0), (0), [], 671)) ((59, .iadd, 1, 0, 0, (0), (0), [], 0))) ((58, .iconst 1, 1, 0, 0, (1), (0), [], 0))) (cond (Nat.ble 55 pc) ((55, .getfield 311, 3, 11, 11, (0), (0), [], 671)) ((54, .dup, 1, 0, 0, (0), (0), [], 0))))) (cond (Nat.ble 45 pc) (cond (Nat.ble 47 pc) (cond (Nat.ble 50 pc) (cond (Nat.ble 53 pc) ((53, .aload_n 0, 1, 0, 0, (0), (0), [], 0)) ((50, .invokevirtual 320, 3, 50, 2, (0), (0), [], 641))) ((47, .getfield 52, 3, 11, 6, (0), (0), [], 666))) (cond (Nat.ble 46 pc) ((46, .aload_n 0, 1, 0, 0, (0), (0), [], 0)) ((45, .aaload, 1, 0, 0, (0), (0), [], 0)))) (cond (Nat.ble 38 pc) (cond (Nat.ble 41 pc) (cond (Nat.ble 42 pc) ((42, .getfield 311, 3, 11, 11, (0), (0), [], 671)) ((41, .aload_n 0, 1, 0, 0, (0), (0), [], 0))) ((38, .getfield 30, 3, 11, 3, (0), (0), [], 663))) (cond (Nat.ble 37 pc) ((37, .aload_n 0, 1, 0, 0, (0), (0), [], 0)) ((36, .ireturn, 1, 0, 0, (0), (0), [], 0)))))) (cond (Nat.ble 19 pc) (cond (Nat.ble 28 pc) (cond (Nat.ble 32 pc) (cond (Nat.ble 34 pc) (cond (Nat.ble 35 pc) ((35, .isub, 1, 0, 0, (0), (0), [], 0)) ((34, .iload_n 1, 1, 1, 0, (0), (0), [], 0))) ((32, .bipush (-100), 2, 0, 0, (-100), (0), [], 0))) (cond (Nat.ble 29 pc) ((29, .if_icmp .eq 8, 3, 37, 0, (0), (0), [], 0)) ((28, .iconst (-1), 1, 0, 0, (-1), (0), [], 0)))) (cond (Nat.ble 21 pc) (cond (Nat.ble 24 pc) (cond (Nat.ble 27 pc) ((27, .iload_n 1, 1, 1, 0, (0), (0), [], 0)) ((24, .invokevirtual 317, 3, 62, 1, (0), (0), [], 637))) ((21, .getfield 43, 3, 11, 5, (0), (0), [], 665))) (cond (Nat.ble 20 pc) ((20, .aload_n 0, 1, 0, 0, (0), (0), [], 0)) ((19, .istore_n 1, 1, 1, 0, (0), (0), [], 0))))) (cond (Nat.ble 9 pc) (cond (Nat.ble 12 pc) (cond (Nat.ble 13 pc) (cond (Nat.ble 16 pc) ((16, .invokevirtual 314, 3, 20, 1, (0), (0), [], 483)) ((13, .getfield 52, 3, 11, 6, (0), (0), [], 666))) ((12, .aload_n 0, 1, 0, 0, (0), (0), [], 0))) (cond (Nat.ble 11 pc) ((11, .ireturn, 1, 0, 0, (0), (0), [], 0)) ((9, .bipush (-4), 2, 0, 0, (-4), (0), [], 0)))) (cond (Nat.ble 4 pc) (cond (Nat.ble 6 pc) ((6, .if_icmp .lt 6, 3, 12, 0, (0), (0), [], 0)) ((4, .bipush 6, 2, 0, 0, (6), (0), [], 0))) (cond (Nat.ble 1 pc) ((1, .getfield 311, 3, 11, 11, (0), (0), [], 671)) ((0, .aload_n 0, 1, 0, 0, (0), (0), [], 0))))))
def pg_70 (pc : Nat) : RI := cond (Nat.ble 7 pc) (cond (Nat.ble 11 pc) (cond (Nat.ble 14 pc) (cond (Nat.ble 15 pc) ((15, .ireturn, 1, 1, 0, (0), (0), [], 0)) ((14, .iconst 0, 1, 0, 0, (0), (0), [], 0))) ((11, .goto 4, 3, 15, 0, (0), (0), [], 0))) (cond (Nat.ble 10 pc) ((10, .iconst 1, 1, 0, 0, (1), (0), [], 0)) ((7, .if_icmp .gt 7, 3, 14, 0, (0), (0), [], 0)))) (cond (Nat.ble 2 pc) (cond (Nat.ble 5 pc) (cond (Nat.ble 6 pc) ((6, .iload_n 2, 1, 2, 0, (0), (0), [], 0)) ((5, .iload_n 0, 1, 0, 0, (0), (0), [], 0))) ((2, .if_icmp .lt 12, 3, 14, 0, (0), (0), [], 0))) (cond (Nat.ble 1 pc) ((1, .iload_n 1, 1, 1, 0, (0), (0), [], 0)) ((0, .iload_n 0, 1, 0, 0, (0), (0), [], 0))))
def pg_71 (pc : Nat) : RI := cond (Nat.ble 23 pc) (cond (Nat.ble 37 pc) (cond (Nat.ble 42 pc) (cond (Nat.ble 44 pc) (cond (Nat.ble 47 pc) ((47, .ireturn, 1, 0, 0, (0), (0), [], 0)) ((44, .invokevirtual 94, 3, 42, 3, (0), (0), [], 708))) (cond (Nat.ble 43 pc) ((43, .iload_n 2, 1, 2, 0, (0), (0), [], 0)) ((42, .iload_n 1, 1, 1, 0, (0), (0), [], 0)))) (cond (Nat.ble 38 pc) (cond (Nat.ble 39 pc) ((39, .getfield 10, 3, 11, 0, (0), (0), [], 660)) ((38, .aload_n 0, 1, 0, 0, (0), (0), [], 0))) ((37, .ireturn, 1, 0, 0, (0), (0), [], 0)))) (cond (Nat.ble 30 pc) (cond (Nat.ble 32 pc) (cond (Nat.ble 35 pc) ((35, .bipush (-4), 2, 0, 0, (-4), (0), [], 0)) ((32, .if_icmp .lt 6, 3, 38, 0, (0), (0), [], 0))) ((30, .bipush 6, 2, 0, 0, (6), (0), [], 0))) (cond (Nat.ble 24 pc) (cond (Nat.ble 27 pc) ((27, .getfield 90, 3, 6, 2, (1), (0), [], 167)) ((24, .getfield 10, 3, 11, 0, (0), (0), [], 660))) ((23, .aload_n 0, 1, 0, 0, (0), (0), [], 0))))) (cond (Nat.ble 11 pc) (cond (Nat.ble 17 pc) (cond (Nat.ble 20 pc) (cond (Nat.ble 22 pc) ((22, .ireturn, 1, 0, 0, (0), (0), [], 0)) ((20, .bipush (-2), 2, 0, 0, (-2), (0), [], 0))) ((17, .ifCond .ne 6, 3, 23, 0, (0), (0), [], 0))) (cond (Nat.ble 12 pc) (cond (Nat.ble 14 pc) ((14, .invokestatic 86, 3, 70, 3, (0), (0), [], 707)) ((12, .bipush 99, 2, 0, 0, (99), (0), [], 0))) ((11, .iconst 0, 1, 0, 0, (0), (0), [], 0)))) (cond (Nat.ble 4 pc) (cond (Nat.ble 7 pc) (cond (Nat.ble 10 pc) ((10, .iload_n 2, 1, 2, 0, (0), (0), [], 0)) ((7, .ifCond .eq 13, 3, 20, 0, (0), (0), [], 0))) ((4, .invokestatic 86, 3, 70, 3, (0), (0), [], 707))) (cond (Nat.ble 1 pc) (cond (Nat.ble 2 pc) ((2, .bipush 99, 2, 0, 0, (99), (0), [], 0)) ((1, .iconst 0, 1, 0, 0, (0), (0), [], 0))) ((0, .iload_n 1, 1, 1, 0, (0), (0), [], 0)))))
def pg_72 (pc : Nat) : RI := cond (Nat.ble 42 pc) (cond (Nat.ble 60 pc) (cond (Nat.ble 69 pc) (cond (Nat.ble 72 pc) (cond (Nat.ble 73 pc) (cond (Nat.ble 76 pc) ((76, .ireturn, 1, 0, 0, (0), (0), [], 0)) ((73, .invokevirtual 118, 3, 19, 2, (0), (0), [], 725))) ((72, .iload_n 2, 1, 2, 0, (0), (0), [], 0))) (cond (Nat.ble 70 pc) ((70, .aload 5, 2, 5, 0, (0), (0), [], 0)) ((69, .iastore, 1, 0, 0, (0), (0), [], 0)))) (cond (Nat.ble 63 pc) (cond (Nat.ble 66 pc) (cond (Nat.ble 67 pc) ((67, .iload 4, 2, 4, 0, (0), (0), [], 0)) ((66, .iload_n 2, 1, 2, 0, (0), (0), [], 0))) ((63, .getfield 115, 3, 3, 3, (1), (0), [], 141))) (cond (Nat.ble 61 pc) ((61, .aload 5, 2, 5, 0, (0), (0), [], 0)) ((60, .iastore, 1, 0, 0, (0), (0), [], 0))))) (cond (Nat.ble 51 pc) (cond (Nat.ble 55 pc) (cond (Nat.ble 58 pc) (cond (Nat.ble 59 pc) ((59, .iload_n 3, 1, 3, 0, (0), (0), [], 0)) ((58, .iload_n 2, 1, 2, 0, (0), (0), [], 0))) ((55, .getfield 109, 3, 3, 2, (1), (0), [], 139))) (cond (Nat.ble 53 pc) ((53, .aload 5, 2, 5, 0, (0), (0), [], 0)) ((51, .astore 5, 2, 5, 0, (0), (0), [], 0)))) (cond (Nat.ble 46 pc) (cond (Nat.ble 49 pc) (cond (Nat.ble 50 pc) ((50, .aaload, 1, 0, 0, (0), (0), [], 0)) ((49, .iload_n 1, 1, 1, 0, (0), (0), [], 0))) ((46, .getfield 105, 3, 6, 0, (1), (0), [], 163))) (cond (Nat.ble 43 pc) ((43, .getfield 10, 3, 11, 0, (0), (0), [], 660)) ((42, .aload_n 0, 1, 0, 0, (0), (0), [], 0)))))) (cond (Nat.ble 20 pc) (cond (Nat.ble 31 pc) (cond (Nat.ble 36 pc) (cond (Nat.ble 39 pc) (cond (Nat.ble 41 pc) ((41, .ireturn, 1, 0, 0, (0), (0), [], 0)) ((39, .bipush (-2), 2, 0, 0, (-2), (0), [], 0))) ((36, .ifCond .ne 6, 3, 42, 0, (0), (0), [], 0))) (cond (Nat.ble 33 pc) ((33, .invokestatic 86, 3, 70, 3, (0), (0), [], 707)) ((31, .bipush 9, 2, 0, 0, (9), (0), [], 0)))) (cond (Nat.ble 25 pc) (cond (Nat.ble 28 pc) (cond (Nat.ble 30 pc) ((30, .iconst 0, 1, 0, 0, (0), (0), [], 0)) ((28, .iload 4, 2, 4, 0, (0), (0), [], 0))) ((25, .ifCond .eq 14, 3, 39, 0, (0), (0), [], 0))) (cond (Nat.ble 22 pc) ((22, .invokestatic 86, 3, 70, 3, (0), (0), [], 707)) ((20, .bipush 99, 2, 0, 0, (99), (0), [], 0))))) (cond (Nat.ble 11 pc) (cond (Nat.ble 15 pc) (cond (Nat.ble 18 pc) (cond (Nat.ble 19 pc) ((19, .iconst 1, 1, 0, 0, (1), (0), [], 0)) ((18, .iload_n 3, 1, 3, 0, (0), (0), [], 0))) ((15, .ifCond .eq 24, 3, 39, 0, (0), (0), [], 0))) (cond (Nat.ble 12 pc) ((12, .invokestatic 102, 3, 73, 1, (0), (0), [], 722)) ((11, .iload_n 2, 1, 2, 0, (0), (0), [], 0)))) (cond (Nat.ble 4 pc) (cond (Nat.ble 5 pc) (cond (Nat.ble 8 pc) ((8, .ifCond .eq 31, 3, 39, 0, (0), (0), [], 0)) ((5, .invokevirtual 98, 3, 43, 2, (0), (0), [], 717))) ((4, .iload_n 1, 1, 1, 0, (0), (0), [], 0))) (cond (Nat.ble 1 pc) ((1, .getfield 10, 3, 11, 0, (0), (0), [], 660)) ((0, .aload_n 0, 1, 0, 0, (0), (0), [], 0))))))
def pg_73 (pc : Nat) : RI := cond (Nat.ble 2 pc) (cond (Nat.ble 3 pc) (cond (Nat.ble 6 pc) ((6, .ireturn, 1, 1, 0, (0), (0), [], 0)) ((3, .invokestatic 86, 3, 70, 3, (0), (0), [], 707))) ((2, .iconst 3, 1, 0, 0, (3), (0), [], 0))) (cond (Nat.ble 1 pc) ((1, .iconst 0, 1, 0, 0, (0), (0), [], 0)) ((0, .iload_n 0, 1, 0, 0, (0), (0), [], 0)))
def pg_74 (pc : Nat) : RI := cond (Nat.ble 20 pc) (cond (Nat.ble 28 pc) (cond (Nat.ble 30 pc) (cond (Nat.ble 31 pc) (cond (Nat.ble 34 pc) ((34, .ireturn, 1, 0, 0, (0), (0), [], 0)) ((31, .invokevirtual 118, 3, 19, 2, (0), (0), [], 725))) ((30, .iload_n 2, 1, 2, 0, (0), (0), [], 0))) (cond (Nat.ble 29 pc) ((29, .aaload, 1, 0, 0, (0), (0), [], 0)) ((28, .iload_n 1, 1, 1, 0, (0), (0), [], 0)))) (cond (Nat.ble 22 pc) (cond (Nat.ble 25 pc) ((25, .getfield 105, 3, 6, 0, (1), (0), [], 163)) ((22, .getfield 10, 3, 11, 0, (0), (0), [], 660))) (cond (Nat.ble 21 pc) ((21, .aload_n 0, 1, 0, 0, (0), (0), [], 0)) ((20, .ireturn, 1, 0, 0, (0), (0), [], 0))))) (cond (Nat.ble 8 pc) (cond (Nat.ble 12 pc) (cond (Nat.ble 15 pc) (cond (Nat.ble 18 pc) ((18, .bipush (-2), 2, 0, 0, (-2), (0), [], 0)) ((15, .ifCond .ne 6, 3, 21, 0, (0), (0), [], 0))) ((12, .invokestatic 102, 3, 73, 1, (0), (0), [], 722))) (cond (Nat.ble 11 pc) ((11, .iload_n 2, 1, 2, 0, (0), (0), [], 0)) ((8, .ifCond .eq 10, 3, 18, 0, (0), (0), [], 0)))) (cond (Nat.ble 4 pc) (cond (Nat.ble 5 pc) ((5, .invokevirtual 98, 3, 43, 2, (0), (0), [], 717)) ((4, .iload_n 1, 1, 1, 0, (0), (0), [], 0))) (cond (Nat.ble 1 pc) ((1, .getfield 10, 3, 11, 0, (0), (0), [], 660)) ((0, .aload_n 0, 1, 0, 0, (0), (0), [], 0)))))
def pg_75 (pc : Nat) : RI := cond (Nat.ble 20 pc) (cond (Nat.ble 30 pc) (cond (Nat.ble 32 pc) (cond (Nat.ble 33 pc) (cond (Nat.ble 34 pc) ((34, .ireturn, 1, 0, 0, (0), (0), [], 0)) ((33, .iconst 1, 1, 0, 0, (1), (0), [], 0))) ((32, .iastore, 1, 0, 0, (0), (0), [], 0))) (cond (Nat.ble 31 pc) ((31, .iload_n 2, 1, 2, 0, (0), (0), [], 0)) ((30, .iload_n 1, 1, 1, 0, (0), (0), [], 0)))) (cond (Nat.ble 23 pc) (cond (Nat.ble 24 pc) (cond (Nat.ble 27 pc) ((27, .getfield 122, 3, 6, 1, (1), (0), [], 165)) ((24, .getfield 10, 3, 11, 0, (0), (0), [], 660))) ((23, .aload_n 0, 1, 0, 0, (0), (0), [], 0))) (cond (Nat.ble 22 pc) ((22, .ireturn, 1, 0, 0, (0), (0), [], 0)) ((20, .bipush (-2), 2, 0, 0, (-2), (0), [], 0))))) (cond (Nat.ble 10 pc) (cond (Nat.ble 13 pc) (cond (Nat.ble 14 pc) (cond (Nat.ble 17 pc) ((17, .ifCond .ne 6, 3, 23, 0, (0), (0), [], 0)) ((14, .invokestatic 86, 3, 70, 3, (0), (0), [], 707))) ((13, .iconst 2, 1, 0, 0, (2), (0), [], 0))) (cond (Nat.ble 11 pc) ((11, .bipush (-2), 2, 0, 0, (-2), (0), [], 0)) ((10, .iload_n 2, 1, 2, 0, (0), (0), [], 0)))) (cond (Nat.ble 2 pc) (cond (Nat.ble 4 pc) (cond (Nat.ble 7 pc) ((7, .ifCond .eq 13, 3, 20, 0, (0), (0), [], 0)) ((4, .invokestatic 86, 3, 70, 3, (0), (0), [], 707))) ((2, .bipush 11, 2, 0, 0, (11), (0), [], 0))) (cond (Nat.ble 1 pc) ((1, .iconst 0, 1, 0, 0, (0), (0), [], 0)) ((0, .iload_n 1, 1, 1, 0, (0), (0), [], 0)))))
def pg_76 (pc : Nat) : RI := cond (Nat.ble 66 pc) (cond (Nat.ble 97 pc) (cond (Nat.ble 114 pc) (cond (Nat.ble 121 pc) (cond (Nat.ble 125 pc) (cond (Nat.ble 128 pc) (cond (Nat.ble 130 pc) ((130, .ireturn, 1, 0, 0, (0), (0), [], 0)) ((128, .iload 4, 2, 4, 0, (0), (0), [], 0))) ((125, .goto (-53), 3, 72, 0, (0), (0), [], 0))) (cond (Nat.ble 122 pc) ((122, .iinc 6 1, 3, 6, 0, (1), (0), [], 0)) ((121, .iastore, 1, 0, 0, (0), (0), [], 0)))) (cond (Nat.ble 117 pc) (cond (Nat.ble 118 pc) ((118, .invokestatic 141, 3, 78, 3, (0), (0), [], 754)) ((117, .iconst 2, 1, 0, 0, (2), (0), [], 0))) (cond (Nat.ble 115 pc) ((115, .bipush (-2), 2, 0, 0, (-2), (0), [], 0)) ((114, .iaload, 1, 0, 0, (0), (0), [], 0))))) (cond (Nat.ble 105 pc) (cond (Nat.ble 109 pc) (cond (Nat.ble 112 pc) ((112, .iload 7, 2, 7, 0, (0), (0), [], 0)) ((109, .getfield 138, 3, 7, 0, (1), (0), [], 411))) (cond (Nat.ble 107 pc) ((107, .aload 5, 2, 5, 0, (0), (0), [], 0)) ((105, .iload 6, 2, 6, 0, (0), (0), [], 0)))) (cond (Nat.ble 99 pc) (cond (Nat.ble 102 pc) ((102, .getfield 122, 3, 6, 1, (1), (0), [], 165)) ((99, .getfield 10, 3, 11, 0, (0), (0), [], 660))) (cond (Nat.ble 98 pc) ((98, .aload_n 0, 1, 0, 0, (0), (0), [], 0)) ((97, .ireturn, 1, 0, 0, (0), (0), [], 0)))))) (cond (Nat.ble 80 pc) (cond (Nat.ble 87 pc) (cond (Nat.ble 92 pc) (cond (Nat.ble 95 pc) ((95, .bipush (-12), 2, 0, 0, (-12), (0), [], 0)) ((92, .ifCond .ne 6, 3, 98, 0, (0), (0), [], 0))) (cond (Nat.ble 89 pc) ((89, .invokevirtual 135, 3, 47, 2, (0), (0), [], 749)) ((87, .iload 7, 2, 7, 0, (0), (0), [], 0)))) (cond (Nat.ble 83 pc) (cond (Nat.ble 85 pc) ((85, .aload 5, 2, 5, 0, (0), (0), [], 0)) ((83, .istore 7, 2, 7, 0, (0), (0), [], 0))) (cond (Nat.ble 82 pc) ((82, .iadd, 1, 0, 0, (0), (0), [], 0)) ((80, .iload 6, 2, 6, 0, (0), (0), [], 0))))) (cond (Nat.ble 72 pc) (cond (Nat.ble 76 pc) (cond (Nat.ble 79 pc) ((79, .iload_n 3, 1, 3, 0, (0), (0), [], 0)) ((76, .if_icmp .ge 52, 3, 128, 0, (0), (0), [], 0))) (cond (Nat.ble 74 pc) ((74, .iload 4, 2, 4, 0, (0), (0), [], 0)) ((72, .iload 6, 2, 6, 0, (0), (0), [], 0)))) (cond (Nat.ble 69 pc) (cond (Nat.ble 70 pc) ((70, .istore 6, 2, 6, 0, (0), (0), [], 0)) ((69, .iconst 0, 1, 0, 0, (0), (0), [], 0))) (cond (Nat.ble 68 pc) ((68, .ireturn, 1, 0, 0, (0), (0), [], 0)) ((66, .bipush (-11), 2, 0, 0, (-11), (0), [], 0))))))) (cond (Nat.ble 31 pc) (cond (Nat.ble 48 pc) (cond (Nat.ble 57 pc) (cond (Nat.ble 60 pc) (cond (Nat.ble 63 pc) ((63, .ifCond .eq 6, 3, 69, 0, (0), (0), [], 0)) ((60, .invokevirtual 128, 3, 46, 1, (0), (0), [], 745))) (cond (Nat.ble 58 pc) ((58, .aload 5, 2, 5, 0, (0), (0), [], 0)) ((57, .ireturn, 1, 0, 0, (0), (0), [], 0)))) (cond (Nat.ble 52 pc) (cond (Nat.ble 55 pc) ((55, .bipush (-13), 2, 0, 0, (-13), (0), [], 0)) ((52, .if_icmp .eq 6, 3, 58, 0, (0), (0), [], 0))) (cond (Nat.ble 51 pc) ((51, .iload_n 2, 1, 2, 0, (0), (0), [], 0)) ((48, .getfield 132, 3, 7, 1, (1), (0), [], 413))))) (cond (Nat.ble 38 pc) (cond (Nat.ble 43 pc) (cond (Nat.ble 46 pc) ((46, .aload 5, 2, 5, 0, (0), (0), [], 0)) ((43, .ifCond .ne 15, 3, 58, 0, (0), (0), [], 0))) (cond (Nat.ble 40 pc) ((40, .invokevirtual 128, 3, 46, 1, (0), (0), [], 745)) ((38, .aload 5, 2, 5, 0, (0), (0), [], 0)))) (cond (Nat.ble 35 pc) (cond (Nat.ble 36 pc) ((36, .astore 5, 2, 5, 0, (0), (0), [], 0)) ((35, .aaload, 1, 0, 0, (0), (0), [], 0))) (cond (Nat.ble 34 pc) ((34, .iload_n 1, 1, 1, 0, (0), (0), [], 0)) ((31, .getfield 36, 3, 11, 4, (0), (0), [], 664)))))) (cond (Nat.ble 16 pc) (cond (Nat.ble 24 pc) (cond (Nat.ble 29 pc) (cond (Nat.ble 30 pc) ((30, .aload_n 0, 1, 0, 0, (0), (0), [], 0)) ((29, .ireturn, 1, 0, 0, (0), (0), [], 0))) (cond (Nat.ble 27 pc) ((27, .bipush (-2), 2, 0, 0, (-2), (0), [], 0)) ((24, .ifCond .ne 6, 3, 30, 0, (0), (0), [], 0)))) (cond (Nat.ble 19 pc) (cond (Nat.ble 21 pc) ((21, .invokestatic 86, 3, 70, 3, (0), (0), [], 707)) ((19, .bipush 12, 2, 0, 0, (12), (0), [], 0))) (cond (Nat.ble 18 pc) ((18, .iconst 0, 1, 0, 0, (0), (0), [], 0)) ((16, .iload 4, 2, 4, 0, (0), (0), [], 0))))) (cond (Nat.ble 8 pc) (cond (Nat.ble 10 pc) (cond (Nat.ble 13 pc) ((13, .ifCond .eq 14, 3, 27, 0, (0), (0), [], 0)) ((10, .invokestatic 86, 3, 70, 3, (0), (0), [], 707))) (cond (Nat.ble 9 pc) ((9, .iconst 2, 1, 0, 0, (2), (0), [], 0)) ((8, .iconst 0, 1, 0, 0, (0), (0), [], 0)))) (cond (Nat.ble 4 pc) (cond (Nat.ble 7 pc) ((7, .iload_n 2, 1, 2, 0, (0), (0), [], 0)) ((4, .ifCond .eq 23, 3, 27, 0, (0), (0), [], 0))) (cond (Nat.ble 1 pc) ((1, .invokestatic 125, 3, 77, 1, (0), (0), [], 742)) ((0, .iload_n 1, 1, 1, 0, (0), (0), [], 0)))))))
def pg_77 (pc : Nat) : RI := cond (Nat.ble 2 pc) (cond (Nat.ble 3 pc) (cond (Nat.ble 6 pc) ((6, .ireturn, 1, 1, 0, (0), (0), [], 0)) ((3, .invokestatic 86, 3, 70, 3, (0), (0), [], 707))) ((2, .iconst 3, 1, 0, 0, (3), (0), [], 0))) (cond (Nat.ble 1 pc) ((1, .iconst 0, 1, 0, 0, (0), (0), [], 0)) ((0, .iload_n 0, 1, 0, 0, (0), (0), [], 0)))
def pg_78 (pc : Nat) : RI := cond (Nat.ble 3 pc) (cond (Nat.ble 6 pc) (cond (Nat.ble 9 pc) ((9, .ireturn, 1, 0, 0, (0), (0), [], 0)) ((6, .invokestatic 186, 3, 1001, 2, (0), (0), [], 758))) ((3, .invokestatic 363, 3, 1002, 2, (0), (0), [], 757))) (cond (Nat.ble 1 pc) (cond (Nat.ble 2 pc) ((2, .iload_n 2, 1, 2, 0, (0), (0), [], 0)) ((1, .iload_n 0, 1, 0, 0, (0), (0), [], 0))) ((0, .iload_n 1, 1, 1, 0, (0), (0), [], 0)))
def pg_79 (pc : Nat) : RI := cond (Nat.ble 27 pc) (cond (Nat.ble 41 pc) (cond (Nat.ble 46 pc) (cond (Nat.ble 48 pc) (cond (Nat.ble 51 pc) ((51, .ireturn, 1, 0, 0, (0), (0), [], 0)) ((48, .invokevirtual 145, 3, 44, 4, (0), (0), [], 763))) (cond (Nat.ble 47 pc) ((47, .iload_n 3, 1, 3, 0, (0), (0), [], 0)) ((46, .iload_n 2, 1, 2, 0, (0), (0), [], 0)))) (cond (Nat.ble 42 pc) (cond (Nat.ble 45 pc) ((45, .iload_n 1, 1, 1, 0, (0), (0), [], 0)) ((42, .getfield 10, 3, 11, 0, (0), (0), [], 660))) ((41, .aload_n 0, 1, 0, 0, (0), (0), [], 0)))) (cond (Nat.ble 32 pc) (cond (Nat.ble 38 pc) (cond (Nat.ble 40 pc) ((40, .ireturn, 1, 0, 0, (0), (0), [], 0)) ((38, .bipush (-2), 2, 0, 0, (-2), (0), [], 0))) (cond (Nat.ble 35 pc) ((35, .ifCond .ne 6, 3, 41, 0, (0), (0), [], 0)) ((32, .invokestatic 86, 3, 70, 3, (0), (0), [], 707)))) (cond (Nat.ble 28 pc) (cond (Nat.ble 29 pc) ((29, .sipush 9999, 3, 0, 0, (9999), (0), [], 0)) ((28, .iconst 0, 1, 0, 0, (0), (0), [], 0))) ((27, .iload_n 3, 1, 3, 0, (0), (0), [], 0))))) (cond (Nat.ble 12 pc) (cond (Nat.ble 19 pc) (cond (Nat.ble 23 pc) (cond (Nat.ble 24 pc) ((24, .if_icmp .eq 14, 3, 38, 0, (0), (0), [], 0)) ((23, .iload_n 2, 1, 2, 0, (0), (0), [], 0))) (cond (Nat.ble 22 pc) ((22, .iload_n 1, 1, 1, 0, (0), (0), [], 0)) ((19, .ifCond .eq 19, 3, 38, 0, (0), (0), [], 0)))) (cond (Nat.ble 15 pc) (cond (Nat.ble 16 pc) ((16, .invokevirtual 98, 3, 43, 2, (0), (0), [], 717)) ((15, .iload_n 2, 1, 2, 0, (0), (0), [], 0))) ((12, .getfield 10, 3, 11, 0, (0), (0), [], 660)))) (cond (Nat.ble 5 pc) (cond (Nat.ble 8 pc) (cond (Nat.ble 11 pc) ((11, .aload_n 0, 1, 0, 0, (0), (0), [], 0)) ((8, .ifCond .eq 30, 3, 38, 0, (0), (0), [], 0))) ((5, .invokevirtual 98, 3, 43, 2, (0), (0), [], 717))) (cond (Nat.ble 1 pc) (cond (Nat.ble 4 pc) ((4, .iload_n 1, 1, 1, 0, (0), (0), [], 0)) ((1, .getfield 10, 3, 11, 0, (0), (0), [], 660))) ((0, .aload_n 0, 1, 0, 0, (0), (0), [], 0)))))
def pg_80 (pc : Nat) : RI := cond (Nat.ble 4 pc) (cond (Nat.ble 6 pc) (cond (Nat.ble 7 pc) ((7, .ireturn, 1, 0, 0, (0), (0), [], 0)) ((6, .irem, 1, 0, 0, (0), (0), [], 0))) ((4, .bipush 12, 2, 0, 0, (12), (0), [], 0))) (cond (Nat.ble 1 pc) (cond (Nat.ble 3 pc) ((3, .idiv, 1, 0, 0, (0), (0), [], 0)) ((1, .bipush 30, 2, 0, 0, (30), (0), [], 0))) ((0, .iload_n 0, 1, 0, 0, (0), (0), [], 0)))
def pg_81 (pc : Nat) : RI := cond (Nat.ble 46 pc) (cond (Nat.ble 70 pc) (cond (Nat.ble 80 pc) (cond (Nat.ble 85 pc) (cond (Nat.ble 89 pc) (cond (Nat.ble 90 pc) ((90, .ireturn, 1, 0, 0, (0), (0), [], 0)) ((89, .isub, 1, 0, 0, (0), (0), [], 0))) (cond (Nat.ble 88 pc) ((88, .iconst 1, 1, 0, 0, (1), (0), [], 0)) ((85, .getfield 149, 3, 11, 9, (0), (0), [], 669)))) (cond (Nat.ble 81 pc) (cond (Nat.ble 84 pc) ((84, .aload_n 0, 1, 0, 0, (0), (0), [], 0)) ((81, .putfield 149, 3, 11, 9, (0), (0), [], 669))) ((80, .iadd, 1, 0, 0, (0), (0), [], 0)))) (cond (Nat.ble 75 pc) (cond (Nat.ble 76 pc) (cond (Nat.ble 79 pc) ((79, .iconst 1, 1, 0, 0, (1), (0), [], 0)) ((76, .getfield 149, 3, 11, 9, (0), (0), [], 669))) ((75, .dup, 1, 0, 0, (0), (0), [], 0))) (cond (Nat.ble 71 pc) (cond (Nat.ble 74 pc) ((74, .aload_n 0, 1, 0, 0, (0), (0), [], 0)) ((71, .putfield 158, 3, 0, 4, (1), (0), [], 326))) ((70, .iload_n 3, 1, 3, 0, (0), (0), [], 0))))) (cond (Nat.ble 58 pc) (cond (Nat.ble 64 pc) (cond (Nat.ble 65 pc) (cond (Nat.ble 68 pc) ((68, .aload 4, 2, 4, 0, (0), (0), [], 0)) ((65, .putfield 155, 3, 0, 3, (1), (0), [], 323))) ((64, .iload_n 2, 1, 2, 0, (0), (0), [], 0))) (cond (Nat.ble 59 pc) (cond (Nat.ble 62 pc) ((62, .aload 4, 2, 4, 0, (0), (0), [], 0)) ((59, .putfield 152, 3, 0, 0, (1), (0), [], 317))) ((58, .iload_n 1, 1, 1, 0, (0), (0), [], 0)))) (cond (Nat.ble 53 pc) (cond (Nat.ble 54 pc) (cond (Nat.ble 56 pc) ((56, .aload 4, 2, 4, 0, (0), (0), [], 0)) ((54, .astore 4, 2, 4, 0, (0), (0), [], 0))) ((53, .aaload, 1, 0, 0, (0), (0), [], 0))) (cond (Nat.ble 49 pc) (cond (Nat.ble 50 pc) ((50, .getfield 149, 3, 11, 9, (0), (0), [], 669)) ((49, .aload_n 0, 1, 0, 0, (0), (0), [], 0))) ((46, .getfield 18, 3, 11, 1, (0), (0), [], 661)))))) (cond (Nat.ble 23 pc) (cond (Nat.ble 35 pc) (cond (Nat.ble 42 pc) (cond (Nat.ble 44 pc) (cond (Nat.ble 45 pc) ((45, .aload_n 0, 1, 0, 0, (0), (0), [], 0)) ((44, .ireturn, 1, 0, 0, (0), (0), [], 0))) ((42, .bipush (-4), 2, 0, 0, (-4), (0), [], 0))) (cond (Nat.ble 38 pc) (cond (Nat.ble 39 pc) ((39, .if_icmp .lt 6, 3, 45, 0, (0), (0), [], 0)) ((38, .iconst 4, 1, 0, 0, (4), (0), [], 0))) ((35, .getfield 149, 3, 11, 9, (0), (0), [], 669)))) (cond (Nat.ble 31 pc) (cond (Nat.ble 33 pc) (cond (Nat.ble 34 pc) ((34, .aload_n 0, 1, 0, 0, (0), (0), [], 0)) ((33, .ireturn, 1, 0, 0, (0), (0), [], 0))) ((31, .bipush (-2), 2, 0, 0, (-2), (0), [], 0))) (cond (Nat.ble 25 pc) (cond (Nat.ble 28 pc) ((28, .ifCond .ne 6, 3, 34, 0, (0), (0), [], 0)) ((25, .invokestatic 86, 3, 70, 3, (0), (0), [], 707))) ((23, .ldc 148, 2, 0, 0, (99999), (0), [], 781))))) (cond (Nat.ble 12 pc) (cond (Nat.ble 18 pc) (cond (Nat.ble 21 pc) (cond (Nat.ble 22 pc) ((22, .iconst 0, 1, 0, 0, (0), (0), [], 0)) ((21, .iload_n 3, 1, 3, 0, (0), (0), [], 0))) ((18, .ifCond .eq 13, 3, 31, 0, (0), (0), [], 0))) (cond (Nat.ble 13 pc) (cond (Nat.ble 15 pc) ((15, .invokestatic 86, 3, 70, 3, (0), (0), [], 707)) ((13, .bipush 99, 2, 0, 0, (99), (0), [], 0))) ((12, .iconst 1, 1, 0, 0, (1), (0), [], 0)))) (cond (Nat.ble 5 pc) (cond (Nat.ble 8 pc) (cond (Nat.ble 11 pc) ((11, .iload_n 2, 1, 2, 0, (0), (0), [], 0)) ((8, .ifCond .eq 23, 3, 31, 0, (0), (0), [], 0))) ((5, .invokevirtual 98, 3, 43, 2, (0), (0), [], 717))) (cond (Nat.ble 1 pc) (cond (Nat.ble 4 pc) ((4, .iload_n 1, 1, 1, 0, (0), (0), [], 0)) ((1, .getfield 10, 3, 11, 0, (0), (0), [], 660))) ((0, .aload_n 0, 1, 0, 0, (0), (0), [], 0))))))
def pg_82 (pc : Nat) : RI := cond (Nat.ble 71 pc) (cond (Nat.ble 89 pc) (cond (Nat.ble 98 pc) (cond (Nat.ble 102 pc) (cond (Nat.ble 103 pc) (cond (Nat.ble 105 pc) ((105, .ireturn, 1, 0, 0, (0), (0), [], 0)) ((103, .bipush (-2), 2, 0, 0, (-2), (0), [], 0))) ((102, .ireturn, 1, 0, 0, (0), (0), [], 0))) (cond (Nat.ble 101 pc) ((101, .iconst 0, 1, 0, 0, (0), (0), [], 0)) ((98, .goto 4, 3, 102, 0, (0), (0), [], 0)))) (cond (Nat.ble 91 pc) (cond (Nat.ble 94 pc) (cond (Nat.ble 97 pc) ((97, .iconst 1, 1, 0, 0, (1), (0), [], 0)) ((94, .ifCond .eq 7, 3, 101, 0, (0), (0), [], 0))) ((91, .getfield 173, 3, 0, 2, (1), (0), [(0, 0)], 321))) (cond (Nat.ble 90 pc) ((90, .aload_n 3, 1, 3, 0, (0), (0), [], 0)) ((89, .ireturn, 1, 0, 0, (0), (0), [], 0))))) (cond (Nat.ble 80 pc) (cond (Nat.ble 84 pc) (cond (Nat.ble 85 pc) (cond (Nat.ble 86 pc) ((86, .getfield 170, 3, 0, 6, (1), (0), [], 331)) ((85, .aload_n 3, 1, 3, 0, (0), (0), [], 0))) ((84, .ireturn, 1, 0, 0, (0), (0), [], 0))) (cond (Nat.ble 81 pc) ((81, .invokevirtual 167, 3, 0, 1, (0), (0), [], 790)) ((80, .aload_n 3, 1, 3, 0, (0), (0), [], 0)))) (cond (Nat.ble 75 pc) (cond (Nat.ble 76 pc) (cond (Nat.ble 79 pc) ((79, .ireturn, 1, 0, 0, (0), (0), [], 0)) ((76, .getfield 158, 3, 0, 4, (1), (0), [], 326))) ((75, .aload_n 3, 1, 3, 0, (0), (0), [], 0))) (cond (Nat.ble 74 pc) ((74, .ireturn, 1, 0, 0, (0), (0), [], 0)) ((71, .getfield 155, 3, 0, 3, (1), (0), [], 323)))))) (cond (Nat.ble 17 pc) (cond (Nat.ble 64 pc) (cond (Nat.ble 66 pc) (cond (Nat.ble 69 pc) (cond (Nat.ble 70 pc) ((70, .aload_n 3, 1, 3, 0, (0), (0), [], 0)) ((69, .ireturn, 1, 0, 0, (0), (0), [], 0))) ((66, .getfield 164, 3, 0, 1, (1), (0), [], 319))) (cond (Nat.ble 65 pc) ((65, .aload_n 3, 1, 3, 0, (0), (0), [], 0)) ((64, .ireturn, 1, 0, 0, (0), (0), [], 0)))) (cond (Nat.ble 19 pc) (cond (Nat.ble 60 pc) (cond (Nat.ble 61 pc) ((61, .getfield 152, 3, 0, 0, (1), (0), [], 317)) ((60, .aload_n 3, 1, 3, 0, (0), (0), [], 0))) ((19, .tableswitch 84 0 6 #[41, 46, 51, 56, 61, 66, 71], 41, 103, 0, (0), (0), [((0), 60), ((1), 65), ((2), 70), ((3), 75), ((4), 80), ((5), 85), ((6), 90)], 0))) (cond (Nat.ble 18 pc) ((18, .iload_n 2, 1, 2, 0, (0), (0), [], 0)) ((17, .astore_n 3, 1, 3, 0, (0), (0), [], 0))))) (cond (Nat.ble 10 pc) (cond (Nat.ble 12 pc) (cond (Nat.ble 15 pc) (cond (Nat.ble 16 pc) ((16, .aaload, 1, 0, 0, (0), (0), [], 0)) ((15, .iload_n 1, 1, 1, 0, (0), (0), [], 0))) ((12, .getfield 18, 3, 11, 1, (0), (0), [], 661))) (cond (Nat.ble 11 pc) ((11, .aload_n 0, 1, 0, 0, (0), (0), [], 0)) ((10, .ireturn, 1, 0, 0, (0), (0), [], 0)))) (cond (Nat.ble 2 pc) (cond (Nat.ble 5 pc) (cond (Nat.ble 8 pc) ((8, .bipush (-2), 2, 0, 0, (-2), (0), [], 0)) ((5, .ifCond .ne 6, 3, 11, 0, (0), (0), [], 0))) ((2, .invokevirtual 161, 3, 83, 2, (0), (0), [], 786))) (cond (Nat.ble 1 pc) ((1, .iload_n 1, 1, 1, 0, (0), (0), [], 0)) ((0, .aload_n 0, 1, 0, 0, (0), (0), [], 0))))))
def pg_83 (pc : Nat) : RI := cond (Nat.ble 6 pc) (cond (Nat.ble 8 pc) (cond (Nat.ble 11 pc) ((11, .ireturn, 1, 1, 0, (0), (0), [], 0)) ((8, .invokestatic 86, 3, 70, 3, (0), (0), [], 707))) (cond (Nat.ble 7 pc) ((7, .isub, 1, 0, 0, (0), (0), [], 0)) ((6, .iconst 1, 1, 0, 0, (1), (0), [], 0)))) (cond (Nat.ble 2 pc) (cond (Nat.ble 3 pc) ((3, .getfield 149, 3, 11, 9, (0), (0), [], 669)) ((2, .aload_n 0, 1, 0, 0, (0), (0), [], 0))) (cond (Nat.ble 1 pc) ((1, .iconst 0, 1, 0, 0, (0), (0), [], 0)) ((0, .iload_n 1, 1, 1, 0, (0), (0), [], 0))))
def pg_84 (pc : Nat) : RI := cond (Nat.ble 17 pc) (cond (Nat.ble 23 pc) (cond (Nat.ble 27 pc) (cond (Nat.ble 28 pc) (cond (Nat.ble 29 pc) ((29, .ireturn, 1, 0, 0, (0), (0), [], 0)) ((28, .iaload, 1, 0, 0, (0), (0), [], 0))) ((27, .iload_n 2, 1, 2, 0, (0), (0), [], 0))) (cond (Nat.ble 24 pc) ((24, .getfield 177, 3, 0, 5, (1), (0), [], 329)) ((23, .aaload, 1, 0, 0, (0), (0), [], 0)))) (cond (Nat.ble 19 pc) (cond (Nat.ble 22 pc) ((22, .iload_n 1, 1, 1, 0, (0), (0), [], 0)) ((19, .getfield 18, 3, 11, 1, (0), (0), [], 661))) (cond (Nat.ble 18 pc) ((18, .aload_n 0, 1, 0, 0, (0), (0), [], 0)) ((17, .ireturn, 1, 0, 0, (0), (0), [], 0))))) (cond (Nat.ble 8 pc) (cond (Nat.ble 12 pc) (cond (Nat.ble 15 pc) ((15, .bipush (-2), 2, 0, 0, (-2), (0), [], 0)) ((12, .ifCond .ne 6, 3, 18, 0, (0), (0), [], 0))) (cond (Nat.ble 9 pc) ((9, .invokestatic 102, 3, 73, 1, (0), (0), [], 722)) ((8, .iload_n 2, 1, 2, 0, (0), (0), [], 0)))) (cond (Nat.ble 2 pc) (cond (Nat.ble 5 pc) ((5, .ifCond .eq 10, 3, 15, 0, (0), (0), [], 0)) ((2, .invokevirtual 161, 3, 83, 2, (0), (0), [], 786))) (cond (Nat.ble 1 pc) ((1, .iload_n 1, 1, 1, 0, (0), (0), [], 0)) ((0, .aload_n 0, 1, 0, 0, (0), (0), [], 0)))))
def pg_85 (pc : Nat) : RI := cond (Nat.ble 62 pc) (cond (Nat.ble 92 pc) (cond (Nat.ble 103 pc) (cond (Nat.ble 107 pc) (cond (Nat.ble 110 pc) (cond (Nat.ble 113 pc) ((113, .ireturn, 1, 0, 0, (0), (0), [], 0)) ((110, .getfield 158, 3, 0, 4, (1), (0), [], 326))) (cond (Nat.ble 108 pc) ((108, .aload 4, 2, 4, 0, (0), (0), [], 0)) ((107, .iastore, 1, 0, 0, (0), (0), [], 0)))) (cond (Nat.ble 105 pc) (cond (Nat.ble 106 pc) ((106, .iadd, 1, 0, 0, (0), (0), [], 0)) ((105, .iload_n 3, 1, 3, 0, (0), (0), [], 0))) (cond (Nat.ble 104 pc) ((104, .iaload, 1, 0, 0, (0), (0), [], 0)) ((103, .dup2, 1, 0, 0, (0), (0), [], 0))))) (cond (Nat.ble 96 pc) (cond (Nat.ble 99 pc) (cond (Nat.ble 102 pc) ((102, .iload_n 2, 1, 2, 0, (0), (0), [], 0)) ((99, .getfield 183, 3, 3, 4, (1), (0), [], 143))) (cond (Nat.ble 97 pc) ((97, .aload 5, 2, 5, 0, (0), (0), [], 0)) ((96, .iastore, 1, 0, 0, (0), (0), [], 0)))) (cond (Nat.ble 94 pc) (cond (Nat.ble 95 pc) ((95, .isub, 1, 0, 0, (0), (0), [], 0)) ((94, .iload_n 3, 1, 3, 0, (0), (0), [], 0))) (cond (Nat.ble 93 pc) ((93, .iaload, 1, 0, 0, (0), (0), [], 0)) ((92, .dup2, 1, 0, 0, (0), (0), [], 0)))))) (cond (Nat.ble 77 pc) (cond (Nat.ble 83 pc) (cond (Nat.ble 88 pc) (cond (Nat.ble 91 pc) ((91, .iload_n 2, 1, 2, 0, (0), (0), [], 0)) ((88, .getfield 177, 3, 0, 5, (1), (0), [], 329))) (cond (Nat.ble 86 pc) ((86, .aload 4, 2, 4, 0, (0), (0), [], 0)) ((83, .putfield 158, 3, 0, 4, (1), (0), [], 326)))) (cond (Nat.ble 81 pc) (cond (Nat.ble 82 pc) ((82, .iadd, 1, 0, 0, (0), (0), [], 0)) ((81, .imul, 1, 0, 0, (0), (0), [], 0))) (cond (Nat.ble 78 pc) ((78, .invokevirtual 118, 3, 19, 2, (0), (0), [], 725)) ((77, .iload_n 2, 1, 2, 0, (0), (0), [], 0))))) (cond (Nat.ble 70 pc) (cond (Nat.ble 74 pc) (cond (Nat.ble 75 pc) ((75, .aload 5, 2, 5, 0, (0), (0), [], 0)) ((74, .iload_n 3, 1, 3, 0, (0), (0), [], 0))) (cond (Nat.ble 71 pc) ((71, .getfield 158, 3, 0, 4, (1), (0), [], 326)) ((70, .dup, 1, 0, 0, (0), (0), [], 0)))) (cond (Nat.ble 66 pc) (cond (Nat.ble 68 pc) ((68, .aload 4, 2, 4, 0, (0), (0), [], 0)) ((66, .astore 5, 2, 5, 0, (0), (0), [], 0))) (cond (Nat.ble 65 pc) ((65, .aaload, 1, 0, 0, (0), (0), [], 0)) ((62, .getfield 152, 3, 0, 0, (1), (0), [], 317))))))) (cond (Nat.ble 29 pc) (cond (Nat.ble 46 pc) (cond (Nat.ble 53 pc) (cond (Nat.ble 57 pc) (cond (Nat.ble 60 pc) ((60, .aload 4, 2, 4, 0, (0), (0), [], 0)) ((57, .getfield 105, 3, 6, 0, (1), (0), [], 163))) (cond (Nat.ble 54 pc) ((54, .getfield 10, 3, 11, 0, (0), (0), [], 660)) ((53, .aload_n 0, 1, 0, 0, (0), (0), [], 0)))) (cond (Nat.ble 50 pc) (cond (Nat.ble 52 pc) ((52, .ireturn, 1, 0, 0, (0), (0), [], 0)) ((50, .bipush (-3), 2, 0, 0, (-3), (0), [], 0))) (cond (Nat.ble 47 pc) ((47, .if_icmp .ge 6, 3, 53, 0, (0), (0), [], 0)) ((46, .iload_n 3, 1, 3, 0, (0), (0), [], 0))))) (cond (Nat.ble 39 pc) (cond (Nat.ble 44 pc) (cond (Nat.ble 45 pc) ((45, .iaload, 1, 0, 0, (0), (0), [], 0)) ((44, .iload_n 2, 1, 2, 0, (0), (0), [], 0))) (cond (Nat.ble 41 pc) ((41, .getfield 177, 3, 0, 5, (1), (0), [], 329)) ((39, .aload 4, 2, 4, 0, (0), (0), [], 0)))) (cond (Nat.ble 33 pc) (cond (Nat.ble 36 pc) ((36, .ifCond .eq 14, 3, 50, 0, (0), (0), [], 0)) ((33, .invokevirtual 180, 3, 1, 1, (0), (0), [], 802))) (cond (Nat.ble 31 pc) ((31, .aload 4, 2, 4, 0, (0), (0), [], 0)) ((29, .astore 4, 2, 4, 0, (0), (0), [], 0)))))) (cond (Nat.ble 16 pc) (cond (Nat.ble 23 pc) (cond (Nat.ble 27 pc) (cond (Nat.ble 28 pc) ((28, .aaload, 1, 0, 0, (0), (0), [], 0)) ((27, .iload_n 1, 1, 1, 0, (0), (0), [], 0))) (cond (Nat.ble 24 pc) ((24, .getfield 18, 3, 11, 1, (0), (0), [], 661)) ((23, .aload_n 0, 1, 0, 0, (0), (0), [], 0)))) (cond (Nat.ble 20 pc) (cond (Nat.ble 22 pc) ((22, .ireturn, 1, 0, 0, (0), (0), [], 0)) ((20, .bipush (-2), 2, 0, 0, (-2), (0), [], 0))) (cond (Nat.ble 17 pc) ((17, .if_icmp .ge 6, 3, 23, 0, (0), (0), [], 0)) ((16, .iconst 1, 1, 0, 0, (1), (0), [], 0))))) (cond (Nat.ble 8 pc) (cond (Nat.ble 12 pc) (cond (Nat.ble 15 pc) ((15, .iload_n 3, 1, 3, 0, (0), (0), [], 0)) ((12, .ifCond .eq 8, 3, 20, 0, (0), (0), [], 0))) (cond (Nat.ble 9 pc) ((9, .invokestatic 102, 3, 73, 1, (0), (0), [], 722)) ((8, .iload_n 2, 1, 2, 0, (0), (0), [], 0)))) (cond (Nat.ble 2 pc) (cond (Nat.ble 5 pc) ((5, .ifCond .eq 15, 3, 20, 0, (0), (0), [], 0)) ((2, .invokevirtual 161, 3, 83, 2, (0), (0), [], 786))) (cond (Nat.ble 1 pc) ((1, .iload_n 1, 1, 1, 0, (0), (0), [], 0)) ((0, .aload_n 0, 1, 0, 0, (0), (0), [], 0)))))))
def pg_86 (pc : Nat) : RI := cond (Nat.ble 80 pc) (cond (Nat.ble 119 pc) (cond (Nat.ble 132 pc) (cond (Nat.ble 140 pc) (cond (Nat.ble 145 pc) (cond (Nat.ble 147 pc) (cond (Nat.ble 150 pc) ((150, .ireturn, 1, 0, 0, (0), (0), [], 0)) ((147, .getfield 158, 3, 0, 4, (1), (0), [], 326))) ((145, .aload 4, 2, 4, 0, (0), (0), [], 0))) (cond (Nat.ble 141 pc) (cond (Nat.ble 144 pc) ((144, .iastore, 1, 0, 0, (0), (0), [], 0)) ((141, .invokestatic 186, 3, 1001, 2, (0), (0), [], 758))) ((140, .isub, 1, 0, 0, (0), (0), [], 0)))) (cond (Nat.ble 137 pc) (cond (Nat.ble 138 pc) (cond (Nat.ble 139 pc) ((139, .iload_n 3, 1, 3, 0, (0), (0), [], 0)) ((138, .iaload, 1, 0, 0, (0), (0), [], 0))) ((137, .iload_n 2, 1, 2, 0, (0), (0), [], 0))) (cond (Nat.ble 134 pc) ((134, .getfield 183, 3, 3, 4, (1), (0), [], 143)) ((132, .aload 5, 2, 5, 0, (0), (0), [], 0))))) (cond (Nat.ble 124 pc) (cond (Nat.ble 127 pc) (cond (Nat.ble 130 pc) (cond (Nat.ble 131 pc) ((131, .iconst 0, 1, 0, 0, (0), (0), [], 0)) ((130, .iload_n 2, 1, 2, 0, (0), (0), [], 0))) ((127, .getfield 183, 3, 3, 4, (1), (0), [], 143))) (cond (Nat.ble 125 pc) ((125, .aload 5, 2, 5, 0, (0), (0), [], 0)) ((124, .iastore, 1, 0, 0, (0), (0), [], 0)))) (cond (Nat.ble 121 pc) (cond (Nat.ble 122 pc) (cond (Nat.ble 123 pc) ((123, .iadd, 1, 0, 0, (0), (0), [], 0)) ((122, .iload_n 3, 1, 3, 0, (0), (0), [], 0))) ((121, .iaload, 1, 0, 0, (0), (0), [], 0))) (cond (Nat.ble 120 pc) ((120, .dup2, 1, 0, 0, (0), (0), [], 0)) ((119, .iload_n 2, 1, 2, 0, (0), (0), [], 0)))))) (cond (Nat.ble 99 pc) (cond (Nat.ble 108 pc) (cond (Nat.ble 111 pc) (cond (Nat.ble 114 pc) (cond (Nat.ble 116 pc) ((116, .getfield 177, 3, 0, 5, (1), (0), [], 329)) ((114, .aload 4, 2, 4, 0, (0), (0), [], 0))) ((111, .putfield 158, 3, 0, 4, (1), (0), [], 326))) (cond (Nat.ble 110 pc) ((110, .isub, 1, 0, 0, (0), (0), [], 0)) ((108, .iload 6, 2, 6, 0, (0), (0), [], 0)))) (cond (Nat.ble 102 pc) (cond (Nat.ble 104 pc) (cond (Nat.ble 105 pc) ((105, .getfield 158, 3, 0, 4, (1), (0), [], 326)) ((104, .dup, 1, 0, 0, (0), (0), [], 0))) ((102, .aload 4, 2, 4, 0, (0), (0), [], 0))) (cond (Nat.ble 101 pc) ((101, .ireturn, 1, 0, 0, (0), (0), [], 0)) ((99, .bipush (-3), 2, 0, 0, (-3), (0), [], 0))))) (cond (Nat.ble 87 pc) (cond (Nat.ble 91 pc) (cond (Nat.ble 93 pc) (cond (Nat.ble 96 pc) ((96, .if_icmp .le 6, 3, 102, 0, (0), (0), [], 0)) ((93, .getfield 158, 3, 0, 4, (1), (0), [], 326))) ((91, .aload 4, 2, 4, 0, (0), (0), [], 0))) (cond (Nat.ble 89 pc) ((89, .iload 6, 2, 6, 0, (0), (0), [], 0)) ((87, .istore 6, 2, 6, 0, (0), (0), [], 0)))) (cond (Nat.ble 84 pc) (cond (Nat.ble 85 pc) (cond (Nat.ble 86 pc) ((86, .imul, 1, 0, 0, (0), (0), [], 0)) ((85, .iadd, 1, 0, 0, (0), (0), [], 0))) ((84, .iconst 1, 1, 0, 0, (1), (0), [], 0))) (cond (Nat.ble 81 pc) ((81, .invokevirtual 118, 3, 19, 2, (0), (0), [], 725)) ((80, .iload_n 2, 1, 2, 0, (0), (0), [], 0))))))) (cond (Nat.ble 38 pc) (cond (Nat.ble 61 pc) (cond (Nat.ble 71 pc) (cond (Nat.ble 75 pc) (cond (Nat.ble 77 pc) (cond (Nat.ble 78 pc) ((78, .aload 5, 2, 5, 0, (0), (0), [], 0)) ((77, .iload_n 3, 1, 3, 0, (0), (0), [], 0))) ((75, .astore 5, 2, 5, 0, (0), (0), [], 0))) (cond (Nat.ble 74 pc) ((74, .aaload, 1, 0, 0, (0), (0), [], 0)) ((71, .getfield 152, 3, 0, 0, (1), (0), [], 317)))) (cond (Nat.ble 63 pc) (cond (Nat.ble 66 pc) (cond (Nat.ble 69 pc) ((69, .aload 4, 2, 4, 0, (0), (0), [], 0)) ((66, .getfield 105, 3, 6, 0, (1), (0), [], 163))) ((63, .getfield 10, 3, 11, 0, (0), (0), [], 660))) (cond (Nat.ble 62 pc) ((62, .aload_n 0, 1, 0, 0, (0), (0), [], 0)) ((61, .ireturn, 1, 0, 0, (0), (0), [], 0))))) (cond (Nat.ble 50 pc) (cond (Nat.ble 53 pc) (cond (Nat.ble 56 pc) (cond (Nat.ble 59 pc) ((59, .bipush (-3), 2, 0, 0, (-3), (0), [], 0)) ((56, .if_icmp .le 6, 3, 62, 0, (0), (0), [], 0))) ((53, .getfield 155, 3, 0, 3, (1), (0), [], 323))) (cond (Nat.ble 51 pc) ((51, .aload 4, 2, 4, 0, (0), (0), [], 0)) ((50, .iadd, 1, 0, 0, (0), (0), [], 0)))) (cond (Nat.ble 44 pc) (cond (Nat.ble 46 pc) (cond (Nat.ble 49 pc) ((49, .iload_n 3, 1, 3, 0, (0), (0), [], 0)) ((46, .invokevirtual 167, 3, 0, 1, (0), (0), [], 790))) ((44, .aload 4, 2, 4, 0, (0), (0), [], 0))) (cond (Nat.ble 41 pc) ((41, .ifCond .eq 18, 3, 59, 0, (0), (0), [], 0)) ((38, .invokevirtual 180, 3, 1, 1, (0), (0), [], 802)))))) (cond (Nat.ble 19 pc) (cond (Nat.ble 29 pc) (cond (Nat.ble 33 pc) (cond (Nat.ble 34 pc) (cond (Nat.ble 36 pc) ((36, .aload 4, 2, 4, 0, (0), (0), [], 0)) ((34, .astore 4, 2, 4, 0, (0), (0), [], 0))) ((33, .aaload, 1, 0, 0, (0), (0), [], 0))) (cond (Nat.ble 32 pc) ((32, .iload_n 1, 1, 1, 0, (0), (0), [], 0)) ((29, .getfield 18, 3, 11, 1, (0), (0), [], 661)))) (cond (Nat.ble 25 pc) (cond (Nat.ble 27 pc) (cond (Nat.ble 28 pc) ((28, .aload_n 0, 1, 0, 0, (0), (0), [], 0)) ((27, .ireturn, 1, 0, 0, (0), (0), [], 0))) ((25, .bipush (-2), 2, 0, 0, (-2), (0), [], 0))) (cond (Nat.ble 22 pc) ((22, .ifCond .ne 6, 3, 28, 0, (0), (0), [], 0)) ((19, .invokestatic 86, 3, 70, 3, (0), (0), [], 707))))) (cond (Nat.ble 9 pc) (cond (Nat.ble 15 pc) (cond (Nat.ble 16 pc) (cond (Nat.ble 17 pc) ((17, .bipush 99, 2, 0, 0, (99), (0), [], 0)) ((16, .iconst 1, 1, 0, 0, (1), (0), [], 0))) ((15, .iload_n 3, 1, 3, 0, (0), (0), [], 0))) (cond (Nat.ble 12 pc) ((12, .ifCond .eq 13, 3, 25, 0, (0), (0), [], 0)) ((9, .invokestatic 102, 3, 73, 1, (0), (0), [], 722)))) (cond (Nat.ble 2 pc) (cond (Nat.ble 5 pc) (cond (Nat.ble 8 pc) ((8, .iload_n 2, 1, 2, 0, (0), (0), [], 0)) ((5, .ifCond .eq 20, 3, 25, 0, (0), (0), [], 0))) ((2, .invokevirtual 161, 3, 83, 2, (0), (0), [], 786))) (cond (Nat.ble 1 pc) ((1, .iload_n 1, 1, 1, 0, (0), (0), [], 0)) ((0, .aload_n 0, 1, 0, 0, (0), (0), [], 0)))))))
def pg_87 (pc : Nat) : RI := cond (Nat.ble 56 pc) (cond (Nat.ble 84 pc) (cond (Nat.ble 95 pc) (cond (Nat.ble 102 pc) (cond (Nat.ble 106 pc) (cond (Nat.ble 109 pc) ((109, .ireturn, 1, 0, 0, (0), (0), [], 0)) ((106, .getfield 164, 3, 0, 1, (1), (0), [], 319))) (cond (Nat.ble 105 pc) ((105, .aload_n 3, 1, 3, 0, (0), (0), [], 0)) ((102, .putfield 164, 3, 0, 1, (1), (0), [], 319)))) (cond (Nat.ble 99 pc) (cond (Nat.ble 101 pc) ((101, .iadd, 1, 0, 0, (0), (0), [], 0)) ((99, .iload 4, 2, 4, 0, (0), (0), [], 0))) (cond (Nat.ble 96 pc) ((96, .getfield 191, 3, 11, 13, (0), (0), [], 673)) ((95, .aload_n 0, 1, 0, 0, (0), (0), [], 0))))) (cond (Nat.ble 89 pc) (cond (Nat.ble 91 pc) (cond (Nat.ble 94 pc) ((94, .aload_n 3, 1, 3, 0, (0), (0), [], 0)) ((91, .putfield 152, 3, 0, 0, (1), (0), [], 317))) (cond (Nat.ble 90 pc) ((90, .iload_n 2, 1, 2, 0, (0), (0), [], 0)) ((89, .aload_n 3, 1, 3, 0, (0), (0), [], 0)))) (cond (Nat.ble 85 pc) (cond (Nat.ble 86 pc) ((86, .invokevirtual 194, 3, 88, 2, (0), (0), [], 814)) ((85, .aload_n 3, 1, 3, 0, (0), (0), [], 0))) ((84, .aload_n 0, 1, 0, 0, (0), (0), [], 0))))) (cond (Nat.ble 67 pc) (cond (Nat.ble 77 pc) (cond (Nat.ble 81 pc) (cond (Nat.ble 83 pc) ((83, .ireturn, 1, 0, 0, (0), (0), [], 0)) ((81, .bipush (-3), 2, 0, 0, (-3), (0), [], 0))) (cond (Nat.ble 78 pc) ((78, .if_icmp .ne 6, 3, 84, 0, (0), (0), [], 0)) ((77, .iconst (-1), 1, 0, 0, (-1), (0), [], 0)))) (cond (Nat.ble 73 pc) (cond (Nat.ble 75 pc) ((75, .iload 4, 2, 4, 0, (0), (0), [], 0)) ((73, .istore 4, 2, 4, 0, (0), (0), [], 0))) (cond (Nat.ble 70 pc) ((70, .invokevirtual 145, 3, 44, 4, (0), (0), [], 763)) ((67, .getfield 191, 3, 11, 13, (0), (0), [], 673))))) (cond (Nat.ble 61 pc) (cond (Nat.ble 65 pc) (cond (Nat.ble 66 pc) ((66, .aload_n 0, 1, 0, 0, (0), (0), [], 0)) ((65, .iload_n 2, 1, 2, 0, (0), (0), [], 0))) (cond (Nat.ble 62 pc) ((62, .getfield 152, 3, 0, 0, (1), (0), [], 317)) ((61, .aload_n 3, 1, 3, 0, (0), (0), [], 0)))) (cond (Nat.ble 57 pc) (cond (Nat.ble 58 pc) ((58, .getfield 10, 3, 11, 0, (0), (0), [], 660)) ((57, .aload_n 0, 1, 0, 0, (0), (0), [], 0))) ((56, .ireturn, 1, 0, 0, (0), (0), [], 0)))))) (cond (Nat.ble 27 pc) (cond (Nat.ble 40 pc) (cond (Nat.ble 47 pc) (cond (Nat.ble 51 pc) (cond (Nat.ble 54 pc) ((54, .bipush (-3), 2, 0, 0, (-3), (0), [], 0)) ((51, .ifCond .ne 6, 3, 57, 0, (0), (0), [], 0))) (cond (Nat.ble 48 pc) ((48, .invokevirtual 180, 3, 1, 1, (0), (0), [], 802)) ((47, .aload_n 3, 1, 3, 0, (0), (0), [], 0)))) (cond (Nat.ble 44 pc) (cond (Nat.ble 46 pc) ((46, .ireturn, 1, 0, 0, (0), (0), [], 0)) ((44, .bipush (-2), 2, 0, 0, (-2), (0), [], 0))) (cond (Nat.ble 41 pc) ((41, .if_icmp .ne 6, 3, 47, 0, (0), (0), [], 0)) ((40, .iload_n 2, 1, 2, 0, (0), (0), [], 0))))) (cond (Nat.ble 30 pc) (cond (Nat.ble 36 pc) (cond (Nat.ble 37 pc) ((37, .getfield 152, 3, 0, 0, (1), (0), [], 317)) ((36, .aload_n 3, 1, 3, 0, (0), (0), [], 0))) (cond (Nat.ble 33 pc) ((33, .ifCond .eq 14, 3, 47, 0, (0), (0), [], 0)) ((30, .invokevirtual 180, 3, 1, 1, (0), (0), [], 802)))) (cond (Nat.ble 28 pc) (cond (Nat.ble 29 pc) ((29, .aload_n 3, 1, 3, 0, (0), (0), [], 0)) ((28, .astore_n 3, 1, 3, 0, (0), (0), [], 0))) ((27, .aaload, 1, 0, 0, (0), (0), [], 0))))) (cond (Nat.ble 13 pc) (cond (Nat.ble 21 pc) (cond (Nat.ble 23 pc) (cond (Nat.ble 26 pc) ((26, .iload_n 1, 1, 1, 0, (0), (0), [], 0)) ((23, .getfield 18, 3, 11, 1, (0), (0), [], 661))) (cond (Nat.ble 22 pc) ((22, .aload_n 0, 1, 0, 0, (0), (0), [], 0)) ((21, .ireturn, 1, 0, 0, (0), (0), [], 0)))) (cond (Nat.ble 16 pc) (cond (Nat.ble 19 pc) ((19, .bipush (-2), 2, 0, 0, (-2), (0), [], 0)) ((16, .ifCond .ne 6, 3, 22, 0, (0), (0), [], 0))) ((13, .invokevirtual 98, 3, 43, 2, (0), (0), [], 717)))) (cond (Nat.ble 5 pc) (cond (Nat.ble 9 pc) (cond (Nat.ble 12 pc) ((12, .iload_n 2, 1, 2, 0, (0), (0), [], 0)) ((9, .getfield 10, 3, 11, 0, (0), (0), [], 660))) (cond (Nat.ble 8 pc) ((8, .aload_n 0, 1, 0, 0, (0), (0), [], 0)) ((5, .ifCond .eq 14, 3, 19, 0, (0), (0), [], 0)))) (cond (Nat.ble 1 pc) (cond (Nat.ble 2 pc) ((2, .invokevirtual 161, 3, 83, 2, (0), (0), [], 786)) ((1, .iload_n 1, 1, 1, 0, (0), (0), [], 0))) ((0, .aload_n 0, 1, 0, 0, (0), (0), [], 0))))))
def pg_88 (pc : Nat) : RI := cond (Nat.ble 26 pc) (cond (Nat.ble 36 pc) (cond (Nat.ble 41 pc) (cond (Nat.ble 44 pc) (cond (Nat.ble 47 pc) ((47, .return_, 1, 0, 0, (0), (0), [], 0)) ((44, .invokevirtual 366, 3, 8, 2, (0), (0), [], 827))) ((41, .getfield 218, 3, 0, 8, (1), (0), [], 335))) (cond (Nat.ble 39 pc) (cond (Nat.ble 40 pc) ((40, .aload_n 1, 1, 1, 0, (0), (0), [], 0)) ((39, .aload_n 2, 1, 2, 0, (0), (0), [], 0))) ((36, .invokevirtual 366, 3, 8, 2, (0), (0), [], 827)))) (cond (Nat.ble 31 pc) (cond (Nat.ble 32 pc) (cond (Nat.ble 35 pc) ((35, .aload_n 2, 1, 2, 0, (0), (0), [], 0)) ((32, .getfield 218, 3, 0, 8, (1), (0), [], 335))) ((31, .aload_n 1, 1, 1, 0, (0), (0), [], 0))) (cond (Nat.ble 27 pc) (cond (Nat.ble 30 pc) ((30, .astore_n 2, 1, 2, 0, (0), (0), [], 0)) ((27, .getfield 222, 3, 3, 5, (1), (0), [], 147))) ((26, .aaload, 1, 0, 0, (0), (0), [], 0))))) (cond (Nat.ble 12 pc) (cond (Nat.ble 19 pc) (cond (Nat.ble 22 pc) (cond (Nat.ble 23 pc) ((23, .getfield 152, 3, 0, 0, (1), (0), [], 317)) ((22, .aload_n 1, 1, 1, 0, (0), (0), [], 0))) ((19, .getfield 105, 3, 6, 0, (1), (0), [], 163))) (cond (Nat.ble 15 pc) (cond (Nat.ble 16 pc) ((16, .getfield 10, 3, 11, 0, (0), (0), [], 660)) ((15, .aload_n 0, 1, 0, 0, (0), (0), [], 0))) ((12, .invokevirtual 214, 3, 45, 3, (0), (0), [], 818)))) (cond (Nat.ble 5 pc) (cond (Nat.ble 8 pc) (cond (Nat.ble 9 pc) ((9, .getfield 191, 3, 11, 13, (0), (0), [], 673)) ((8, .aload_n 0, 1, 0, 0, (0), (0), [], 0))) ((5, .getfield 152, 3, 0, 0, (1), (0), [], 317))) (cond (Nat.ble 1 pc) (cond (Nat.ble 4 pc) ((4, .aload_n 1, 1, 1, 0, (0), (0), [], 0)) ((1, .getfield 10, 3, 11, 0, (0), (0), [], 660))) ((0, .aload_n 0, 1, 0, 0, (0), (0), [], 0)))))
def pg_89 (pc : Nat) : RI := cond (Nat.ble 30 pc) (cond (Nat.ble 42 pc) (cond (Nat.ble 50 pc) (cond (Nat.ble 56 pc) (cond (Nat.ble 57 pc) (cond (Nat.ble 60 pc) ((60, .ireturn, 1, 0, 0, (0), (0), [], 0)) ((57, .getfield 191, 3, 11, 13, (0), (0), [], 673))) ((56, .aload_n 0, 1, 0, 0, (0), (0), [], 0))) (cond (Nat.ble 53 pc) ((53, .goto (-22), 3, 31, 0, (0), (0), [], 0)) ((50, .iinc 2 1, 3, 2, 0, (1), (0), [], 0)))) (cond (Nat.ble 46 pc) (cond (Nat.ble 47 pc) ((47, .invokevirtual 198, 3, 90, 1, (0), (0), [], 836)) ((46, .aload_n 0, 1, 0, 0, (0), (0), [], 0))) (cond (Nat.ble 43 pc) ((43, .putfield 191, 3, 11, 13, (0), (0), [], 673)) ((42, .iadd, 1, 0, 0, (0), (0), [], 0))))) (cond (Nat.ble 36 pc) (cond (Nat.ble 38 pc) (cond (Nat.ble 41 pc) ((41, .iconst 1, 1, 0, 0, (1), (0), [], 0)) ((38, .getfield 191, 3, 11, 13, (0), (0), [], 673))) (cond (Nat.ble 37 pc) ((37, .dup, 1, 0, 0, (0), (0), [], 0)) ((36, .aload_n 0, 1, 0, 0, (0), (0), [], 0)))) (cond (Nat.ble 32 pc) (cond (Nat.ble 33 pc) ((33, .if_icmp .ge 23, 3, 56, 0, (0), (0), [], 0)) ((32, .iload_n 1, 1, 1, 0, (0), (0), [], 0))) (cond (Nat.ble 31 pc) ((31, .iload_n 2, 1, 2, 0, (0), (0), [], 0)) ((30, .istore_n 2, 1, 2, 0, (0), (0), [], 0)))))) (cond (Nat.ble 15 pc) (cond (Nat.ble 23 pc) (cond (Nat.ble 28 pc) (cond (Nat.ble 29 pc) ((29, .iconst 0, 1, 0, 0, (0), (0), [], 0)) ((28, .ireturn, 1, 0, 0, (0), (0), [], 0))) (cond (Nat.ble 26 pc) ((26, .bipush (-4), 2, 0, 0, (-4), (0), [], 0)) ((23, .if_icmp .le 6, 3, 29, 0, (0), (0), [], 0)))) (cond (Nat.ble 19 pc) (cond (Nat.ble 20 pc) ((20, .sipush 9999, 3, 0, 0, (9999), (0), [], 0)) ((19, .iadd, 1, 0, 0, (0), (0), [], 0))) (cond (Nat.ble 18 pc) ((18, .iload_n 1, 1, 1, 0, (0), (0), [], 0)) ((15, .getfield 191, 3, 11, 13, (0), (0), [], 673))))) (cond (Nat.ble 8 pc) (cond (Nat.ble 13 pc) (cond (Nat.ble 14 pc) ((14, .aload_n 0, 1, 0, 0, (0), (0), [], 0)) ((13, .ireturn, 1, 0, 0, (0), (0), [], 0))) (cond (Nat.ble 11 pc) ((11, .bipush (-2), 2, 0, 0, (-2), (0), [], 0)) ((8, .ifCond .ne 6, 3, 14, 0, (0), (0), [], 0)))) (cond (Nat.ble 2 pc) (cond (Nat.ble 5 pc) ((5, .invokestatic 86, 3, 70, 3, (0), (0), [], 707)) ((2, .sipush 400, 3, 0, 0, (400), (0), [], 0))) (cond (Nat.ble 1 pc) ((1, .iconst 1, 1, 0, 0, (1), (0), [], 0)) ((0, .iload_n 1, 1, 1, 0, (0), (0), [], 0))))))
def pg_90 (pc : Nat) : RI := cond (Nat.ble 24 pc) (cond (Nat.ble 37 pc) (cond (Nat.ble 42 pc) (cond (Nat.ble 48 pc) (cond (Nat.ble 51 pc) ((51, .return_, 1, 0, 0, (0), (0), [], 0)) ((48, .goto (-46), 3, 2, 0, (0), (0), [], 0))) (cond (Nat.ble 45 pc) ((45, .iinc 1 1, 3, 1, 0, (1), (0), [], 0)) ((42, .invokevirtual 194, 3, 88, 2, (0), (0), [], 814)))) (cond (Nat.ble 40 pc) (cond (Nat.ble 41 pc) ((41, .aload_n 2, 1, 2, 0, (0), (0), [], 0)) ((40, .aload_n 0, 1, 0, 0, (0), (0), [], 0))) ((37, .putfield 164, 3, 0, 1, (1), (0), [], 319)))) (cond (Nat.ble 29 pc) (cond (Nat.ble 35 pc) (cond (Nat.ble 36 pc) ((36, .iconst (-1), 1, 0, 0, (-1), (0), [], 0)) ((35, .aload_n 2, 1, 2, 0, (0), (0), [], 0))) (cond (Nat.ble 32 pc) ((32, .if_icmp .ne 13, 3, 45, 0, (0), (0), [], 0)) ((29, .getfield 191, 3, 11, 13, (0), (0), [], 673)))) (cond (Nat.ble 25 pc) (cond (Nat.ble 28 pc) ((28, .aload_n 0, 1, 0, 0, (0), (0), [], 0)) ((25, .getfield 164, 3, 0, 1, (1), (0), [], 319))) ((24, .aload_n 2, 1, 2, 0, (0), (0), [], 0))))) (cond (Nat.ble 11 pc) (cond (Nat.ble 16 pc) (cond (Nat.ble 18 pc) (cond (Nat.ble 21 pc) ((21, .ifCond .eq 24, 3, 45, 0, (0), (0), [], 0)) ((18, .invokevirtual 201, 3, 2, 1, (0), (0), [], 840))) (cond (Nat.ble 17 pc) ((17, .aload_n 2, 1, 2, 0, (0), (0), [], 0)) ((16, .astore_n 2, 1, 2, 0, (0), (0), [], 0)))) (cond (Nat.ble 14 pc) (cond (Nat.ble 15 pc) ((15, .aaload, 1, 0, 0, (0), (0), [], 0)) ((14, .iload_n 1, 1, 1, 0, (0), (0), [], 0))) ((11, .getfield 18, 3, 11, 1, (0), (0), [], 661)))) (cond (Nat.ble 3 pc) (cond (Nat.ble 7 pc) (cond (Nat.ble 10 pc) ((10, .aload_n 0, 1, 0, 0, (0), (0), [], 0)) ((7, .if_icmp .ge 44, 3, 51, 0, (0), (0), [], 0))) (cond (Nat.ble 4 pc) ((4, .getfield 149, 3, 11, 9, (0), (0), [], 669)) ((3, .aload_n 0, 1, 0, 0, (0), (0), [], 0)))) (cond (Nat.ble 1 pc) (cond (Nat.ble 2 pc) ((2, .iload_n 1, 1, 1, 0, (0), (0), [], 0)) ((1, .istore_n 1, 1, 1, 0, (0), (0), [], 0))) ((0, .iconst 0, 1, 0, 0, (0), (0), [], 0)))))
def pg_91 (pc : Nat) : RI := cond (Nat.ble 34 pc) (cond (Nat.ble 52 pc) (cond (Nat.ble 61 pc) (cond (Nat.ble 67 pc) (cond (Nat.ble 70 pc) (cond (Nat.ble 71 pc) ((71, .ireturn, 1, 0, 0, (0), (0), [], 0)) ((70, .iconst 1, 1, 0, 0, (1), (0), [], 0))) ((67, .goto (-33), 3, 34, 0, (0), (0), [], 0))) (cond (Nat.ble 64 pc) ((64, .iinc 3 1, 3, 3, 0, (1), (0), [], 0)) ((61, .invokevirtual 213, 3, 64, 1, (0), (0), [], 857)))) (cond (Nat.ble 56 pc) (cond (Nat.ble 59 pc) (cond (Nat.ble 60 pc) ((60, .aaload, 1, 0, 0, (0), (0), [], 0)) ((59, .iload_n 3, 1, 3, 0, (0), (0), [], 0))) ((56, .getfield 24, 3, 11, 2, (0), (0), [], 662))) (cond (Nat.ble 55 pc) ((55, .aload_n 0, 1, 0, 0, (0), (0), [], 0)) ((52, .ifCond .eq 12, 3, 64, 0, (0), (0), [], 0))))) (cond (Nat.ble 43 pc) (cond (Nat.ble 47 pc) (cond (Nat.ble 48 pc) (cond (Nat.ble 49 pc) ((49, .invokevirtual 210, 3, 63, 2, (0), (0), [], 853)) ((48, .iload_n 1, 1, 1, 0, (0), (0), [], 0))) ((47, .aaload, 1, 0, 0, (0), (0), [], 0))) (cond (Nat.ble 46 pc) ((46, .iload_n 3, 1, 3, 0, (0), (0), [], 0)) ((43, .getfield 24, 3, 11, 2, (0), (0), [], 662)))) (cond (Nat.ble 36 pc) (cond (Nat.ble 39 pc) (cond (Nat.ble 42 pc) ((42, .aload_n 0, 1, 0, 0, (0), (0), [], 0)) ((39, .if_icmp .ge 31, 3, 70, 0, (0), (0), [], 0))) ((36, .getfield 207, 3, 11, 10, (0), (0), [], 670))) (cond (Nat.ble 35 pc) ((35, .aload_n 0, 1, 0, 0, (0), (0), [], 0)) ((34, .iload_n 3, 1, 3, 0, (0), (0), [], 0)))))) (cond (Nat.ble 17 pc) (cond (Nat.ble 27 pc) (cond (Nat.ble 29 pc) (cond (Nat.ble 32 pc) (cond (Nat.ble 33 pc) ((33, .istore_n 3, 1, 3, 0, (0), (0), [], 0)) ((32, .iconst 0, 1, 0, 0, (0), (0), [], 0))) ((29, .invokevirtual 204, 3, 3, 1, (0), (0), [], 848))) (cond (Nat.ble 28 pc) ((28, .aload_n 2, 1, 2, 0, (0), (0), [], 0)) ((27, .ireturn, 1, 0, 0, (0), (0), [], 0)))) (cond (Nat.ble 19 pc) (cond (Nat.ble 22 pc) (cond (Nat.ble 25 pc) ((25, .bipush (-3), 2, 0, 0, (-3), (0), [], 0)) ((22, .ifCond .ne 6, 3, 28, 0, (0), (0), [], 0))) ((19, .invokevirtual 201, 3, 2, 1, (0), (0), [], 840))) (cond (Nat.ble 18 pc) ((18, .aload_n 2, 1, 2, 0, (0), (0), [], 0)) ((17, .astore_n 2, 1, 2, 0, (0), (0), [], 0))))) (cond (Nat.ble 10 pc) (cond (Nat.ble 12 pc) (cond (Nat.ble 15 pc) (cond (Nat.ble 16 pc) ((16, .aaload, 1, 0, 0, (0), (0), [], 0)) ((15, .iload_n 1, 1, 1, 0, (0), (0), [], 0))) ((12, .getfield 18, 3, 11, 1, (0), (0), [], 661))) (cond (Nat.ble 11 pc) ((11, .aload_n 0, 1, 0, 0, (0), (0), [], 0)) ((10, .ireturn, 1, 0, 0, (0), (0), [], 0)))) (cond (Nat.ble 2 pc) (cond (Nat.ble 5 pc) (cond (Nat.ble 8 pc) ((8, .bipush (-2), 2, 0, 0, (-2), (0), [], 0)) ((5, .ifCond .ne 6, 3, 11, 0, (0), (0), [], 0))) ((2, .invokevirtual 161, 3, 83, 2, (0), (0), [], 786))) (cond (Nat.ble 1 pc) ((1, .iload_n 1, 1, 1, 0, (0), (0), [], 0)) ((0, .aload_n 0, 1, 0, 0, (0), (0), [], 0))))))
def pg_92 (pc : Nat) : RI := cond (Nat.ble 81 pc) (cond (Nat.ble 122 pc) (cond (Nat.ble 141 pc) (cond (Nat.ble 151 pc) (cond (Nat.ble 155 pc) (cond (Nat.ble 157 pc) (cond (Nat.ble 160 pc) ((160, .ireturn, 1, 0, 0, (0), (0), [], 0)) ((157, .invokevirtual 231, 3, 10, 3, (0), (0), [], 869))) ((155, .iload 4, 2, 4, 0, (0), (0), [], 0))) (cond (Nat.ble 152 pc) (cond (Nat.ble 154 pc) ((154, .iload_n 3, 1, 3, 0, (0), (0), [], 0)) ((152, .aload 6, 2, 6, 0, (0), (0), [], 0))) ((151, .ireturn, 1, 0, 0, (0), (0), [], 0)))) (cond (Nat.ble 146 pc) (cond (Nat.ble 149 pc) (cond (Nat.ble 150 pc) ((150, .iaload, 1, 0, 0, (0), (0), [], 0)) ((149, .iload_n 3, 1, 3, 0, (0), (0), [], 0))) ((146, .getfield 228, 3, 1, 0, (1), (0), [], 127))) (cond (Nat.ble 144 pc) ((144, .aload 6, 2, 6, 0, (0), (0), [], 0)) ((141, .ifCond .ne 11, 3, 152, 0, (0), (0), [], 0))))) (cond (Nat.ble 131 pc) (cond (Nat.ble 135 pc) (cond (Nat.ble 137 pc) (cond (Nat.ble 138 pc) ((138, .invokevirtual 223, 3, 9, 2, (0), (0), [], 865)) ((137, .iload_n 3, 1, 3, 0, (0), (0), [], 0))) ((135, .aload 6, 2, 6, 0, (0), (0), [], 0))) (cond (Nat.ble 132 pc) ((132, .if_icmp .eq 12, 3, 144, 0, (0), (0), [], 0)) ((131, .iconst (-1), 1, 0, 0, (-1), (0), [], 0)))) (cond (Nat.ble 124 pc) (cond (Nat.ble 127 pc) (cond (Nat.ble 129 pc) ((129, .iload 4, 2, 4, 0, (0), (0), [], 0)) ((127, .astore 6, 2, 6, 0, (0), (0), [], 0))) ((124, .getfield 222, 3, 3, 5, (1), (0), [], 147))) (cond (Nat.ble 123 pc) ((123, .aaload, 1, 0, 0, (0), (0), [], 0)) ((122, .iload_n 2, 1, 2, 0, (0), (0), [], 0)))))) (cond (Nat.ble 99 pc) (cond (Nat.ble 108 pc) (cond (Nat.ble 115 pc) (cond (Nat.ble 116 pc) (cond (Nat.ble 119 pc) ((119, .getfield 105, 3, 6, 0, (1), (0), [], 163)) ((116, .getfield 10, 3, 11, 0, (0), (0), [], 660))) ((115, .aload_n 0, 1, 0, 0, (0), (0), [], 0))) (cond (Nat.ble 109 pc) (cond (Nat.ble 112 pc) ((112, .goto 15, 3, 127, 0, (0), (0), [], 0)) ((109, .getfield 218, 3, 0, 8, (1), (0), [], 335))) ((108, .aaload, 1, 0, 0, (0), (0), [], 0)))) (cond (Nat.ble 103 pc) (cond (Nat.ble 104 pc) (cond (Nat.ble 107 pc) ((107, .iload_n 2, 1, 2, 0, (0), (0), [], 0)) ((104, .getfield 18, 3, 11, 1, (0), (0), [], 661))) ((103, .aload_n 0, 1, 0, 0, (0), (0), [], 0))) (cond (Nat.ble 100 pc) ((100, .ifCond .ne 15, 3, 115, 0, (0), (0), [], 0)) ((99, .iload_n 1, 1, 1, 0, (0), (0), [], 0))))) (cond (Nat.ble 88 pc) (cond (Nat.ble 92 pc) (cond (Nat.ble 93 pc) (cond (Nat.ble 96 pc) ((96, .invokevirtual 214, 3, 45, 3, (0), (0), [], 818)) ((93, .getfield 191, 3, 11, 13, (0), (0), [], 673))) ((92, .aload_n 0, 1, 0, 0, (0), (0), [], 0))) (cond (Nat.ble 91 pc) ((91, .iload_n 2, 1, 2, 0, (0), (0), [], 0)) ((88, .getfield 10, 3, 11, 0, (0), (0), [], 660)))) (cond (Nat.ble 83 pc) (cond (Nat.ble 84 pc) (cond (Nat.ble 87 pc) ((87, .aload_n 0, 1, 0, 0, (0), (0), [], 0)) ((84, .if_icmp .ne 15, 3, 99, 0, (0), (0), [], 0))) ((83, .iconst 1, 1, 0, 0, (1), (0), [], 0))) (cond (Nat.ble 82 pc) ((82, .iload_n 1, 1, 1, 0, (0), (0), [], 0)) ((81, .ireturn, 1, 0, 0, (0), (0), [], 0))))))) (cond (Nat.ble 40 pc) (cond (Nat.ble 61 pc) (cond (Nat.ble 69 pc) (cond (Nat.ble 74 pc) (cond (Nat.ble 77 pc) (cond (Nat.ble 80 pc) ((80, .iconst (-1), 1, 0, 0, (-1), (0), [], 0)) ((77, .ifCond .eq 5, 3, 82, 0, (0), (0), [], 0))) ((74, .getfield 173, 3, 0, 2, (1), (0), [(0, 0)], 321))) (cond (Nat.ble 72 pc) (cond (Nat.ble 73 pc) ((73, .aaload, 1, 0, 0, (0), (0), [], 0)) ((72, .iload_n 2, 1, 2, 0, (0), (0), [], 0))) ((69, .getfield 18, 3, 11, 1, (0), (0), [], 661)))) (cond (Nat.ble 64 pc) (cond (Nat.ble 65 pc) (cond (Nat.ble 68 pc) ((68, .aload_n 0, 1, 0, 0, (0), (0), [], 0)) ((65, .ifCond .ne 17, 3, 82, 0, (0), (0), [], 0))) ((64, .iload_n 1, 1, 1, 0, (0), (0), [], 0))) (cond (Nat.ble 63 pc) ((63, .ireturn, 1, 0, 0, (0), (0), [], 0)) ((61, .bipush (-2), 2, 0, 0, (-2), (0), [], 0))))) (cond (Nat.ble 51 pc) (cond (Nat.ble 54 pc) (cond (Nat.ble 55 pc) (cond (Nat.ble 58 pc) ((58, .ifCond .ne 6, 3, 64, 0, (0), (0), [], 0)) ((55, .invokestatic 86, 3, 70, 3, (0), (0), [], 707))) ((54, .iconst 3, 1, 0, 0, (3), (0), [], 0))) (cond (Nat.ble 53 pc) ((53, .iconst (-1), 1, 0, 0, (-1), (0), [], 0)) ((51, .iload 4, 2, 4, 0, (0), (0), [], 0)))) (cond (Nat.ble 44 pc) (cond (Nat.ble 45 pc) (cond (Nat.ble 48 pc) ((48, .ifCond .eq 13, 3, 61, 0, (0), (0), [], 0)) ((45, .invokevirtual 98, 3, 43, 2, (0), (0), [], 717))) ((44, .iload_n 3, 1, 3, 0, (0), (0), [], 0))) (cond (Nat.ble 41 pc) ((41, .getfield 10, 3, 11, 0, (0), (0), [], 660)) ((40, .aload_n 0, 1, 0, 0, (0), (0), [], 0)))))) (cond (Nat.ble 18 pc) (cond (Nat.ble 29 pc) (cond (Nat.ble 33 pc) (cond (Nat.ble 35 pc) (cond (Nat.ble 37 pc) ((37, .ifCond .eq 24, 3, 61, 0, (0), (0), [], 0)) ((35, .iload 5, 2, 5, 0, (0), (0), [], 0))) ((33, .istore 5, 2, 5, 0, (0), (0), [], 0))) (cond (Nat.ble 32 pc) ((32, .iconst 0, 1, 0, 0, (0), (0), [], 0)) ((29, .goto 4, 3, 33, 0, (0), (0), [], 0)))) (cond (Nat.ble 22 pc) (cond (Nat.ble 25 pc) (cond (Nat.ble 28 pc) ((28, .iconst 1, 1, 0, 0, (1), (0), [], 0)) ((25, .ifCond .eq 7, 3, 32, 0, (0), (0), [], 0))) ((22, .invokevirtual 98, 3, 43, 2, (0), (0), [], 717))) (cond (Nat.ble 21 pc) ((21, .iload_n 2, 1, 2, 0, (0), (0), [], 0)) ((18, .getfield 10, 3, 11, 0, (0), (0), [], 660))))) (cond (Nat.ble 9 pc) (cond (Nat.ble 13 pc) (cond (Nat.ble 14 pc) (cond (Nat.ble 17 pc) ((17, .aload_n 0, 1, 0, 0, (0), (0), [], 0)) ((14, .if_icmp .ne 18, 3, 32, 0, (0), (0), [], 0))) ((13, .iconst 1, 1, 0, 0, (1), (0), [], 0))) (cond (Nat.ble 12 pc) ((12, .iload_n 1, 1, 1, 0, (0), (0), [], 0)) ((9, .ifCond .ne 19, 3, 28, 0, (0), (0), [], 0)))) (cond (Nat.ble 4 pc) (cond (Nat.ble 5 pc) (cond (Nat.ble 6 pc) ((6, .invokevirtual 161, 3, 83, 2, (0), (0), [], 786)) ((5, .iload_n 2, 1, 2, 0, (0), (0), [], 0))) ((4, .aload_n 0, 1, 0, 0, (0), (0), [], 0))) (cond (Nat.ble 1 pc) ((1, .ifCond .ne 11, 3, 12, 0, (0), (0), [], 0)) ((0, .iload_n 1, 1, 1, 0, (0), (0), [], 0)))))))
def pg_93 (pc : Nat) : RI := cond (Nat.ble 82 pc) (cond (Nat.ble 119 pc) (cond (Nat.ble 139 pc) (cond (Nat.ble 146 pc) (cond (Nat.ble 153 pc) (cond (Nat.ble 154 pc) (cond (Nat.ble 155 pc) ((155, .ireturn, 1, 0, 0, (0), (0), [], 0)) ((154, .isub, 1, 0, 0, (0), (0), [], 0))) ((153, .iconst 1, 1, 0, 0, (1), (0), [], 0))) (cond (Nat.ble 149 pc) (cond (Nat.ble 150 pc) ((150, .getfield 207, 3, 11, 10, (0), (0), [], 670)) ((149, .aload_n 0, 1, 0, 0, (0), (0), [], 0))) ((146, .putfield 207, 3, 11, 10, (0), (0), [], 670)))) (cond (Nat.ble 141 pc) (cond (Nat.ble 144 pc) (cond (Nat.ble 145 pc) ((145, .iadd, 1, 0, 0, (0), (0), [], 0)) ((144, .iconst 1, 1, 0, 0, (1), (0), [], 0))) ((141, .getfield 207, 3, 11, 10, (0), (0), [], 670))) (cond (Nat.ble 140 pc) ((140, .dup, 1, 0, 0, (0), (0), [], 0)) ((139, .aload_n 0, 1, 0, 0, (0), (0), [], 0))))) (cond (Nat.ble 128 pc) (cond (Nat.ble 132 pc) (cond (Nat.ble 135 pc) (cond (Nat.ble 136 pc) ((136, .putfield 158, 3, 0, 4, (1), (0), [], 326)) ((135, .iadd, 1, 0, 0, (0), (0), [], 0))) ((132, .invokevirtual 239, 3, 66, 1, (0), (0), [], 885))) (cond (Nat.ble 131 pc) ((131, .aaload, 1, 0, 0, (0), (0), [], 0)) ((128, .getfield 207, 3, 11, 10, (0), (0), [], 670)))) (cond (Nat.ble 123 pc) (cond (Nat.ble 124 pc) (cond (Nat.ble 127 pc) ((127, .aload_n 0, 1, 0, 0, (0), (0), [], 0)) ((124, .getfield 24, 3, 11, 2, (0), (0), [], 662))) ((123, .aload_n 0, 1, 0, 0, (0), (0), [], 0))) (cond (Nat.ble 120 pc) ((120, .getfield 158, 3, 0, 4, (1), (0), [], 326)) ((119, .dup, 1, 0, 0, (0), (0), [], 0)))))) (cond (Nat.ble 101 pc) (cond (Nat.ble 110 pc) (cond (Nat.ble 112 pc) (cond (Nat.ble 114 pc) (cond (Nat.ble 117 pc) ((117, .aload 5, 2, 5, 0, (0), (0), [], 0)) ((114, .invokevirtual 236, 3, 65, 5, (0), (0), [], 881))) ((112, .iload 4, 2, 4, 0, (0), (0), [], 0))) (cond (Nat.ble 111 pc) ((111, .iload_n 3, 1, 3, 0, (0), (0), [], 0)) ((110, .iload_n 2, 1, 2, 0, (0), (0), [], 0)))) (cond (Nat.ble 105 pc) (cond (Nat.ble 108 pc) (cond (Nat.ble 109 pc) ((109, .iload_n 1, 1, 1, 0, (0), (0), [], 0)) ((108, .aaload, 1, 0, 0, (0), (0), [], 0))) ((105, .getfield 207, 3, 11, 10, (0), (0), [], 670))) (cond (Nat.ble 104 pc) ((104, .aload_n 0, 1, 0, 0, (0), (0), [], 0)) ((101, .getfield 24, 3, 11, 2, (0), (0), [], 662))))) (cond (Nat.ble 92 pc) (cond (Nat.ble 97 pc) (cond (Nat.ble 99 pc) (cond (Nat.ble 100 pc) ((100, .aload_n 0, 1, 0, 0, (0), (0), [], 0)) ((99, .ireturn, 1, 0, 0, (0), (0), [], 0))) ((97, .bipush (-4), 2, 0, 0, (-4), (0), [], 0))) (cond (Nat.ble 94 pc) ((94, .if_icmp .lt 6, 3, 100, 0, (0), (0), [], 0)) ((92, .bipush 16, 2, 0, 0, (16), (0), [], 0)))) (cond (Nat.ble 87 pc) (cond (Nat.ble 88 pc) (cond (Nat.ble 89 pc) ((89, .getfield 207, 3, 11, 10, (0), (0), [], 670)) ((88, .aload_n 0, 1, 0, 0, (0), (0), [], 0))) ((87, .ireturn, 1, 0, 0, (0), (0), [], 0))) (cond (Nat.ble 85 pc) ((85, .bipush (-3), 2, 0, 0, (-3), (0), [], 0)) ((82, .if_icmp .ge 6, 3, 88, 0, (0), (0), [], 0))))))) (cond (Nat.ble 41 pc) (cond (Nat.ble 59 pc) (cond (Nat.ble 71 pc) (cond (Nat.ble 76 pc) (cond (Nat.ble 78 pc) (cond (Nat.ble 81 pc) ((81, .iload_n 3, 1, 3, 0, (0), (0), [], 0)) ((78, .getfield 158, 3, 0, 4, (1), (0), [], 326))) ((76, .aload 5, 2, 5, 0, (0), (0), [], 0))) (cond (Nat.ble 72 pc) (cond (Nat.ble 73 pc) ((73, .if_icmp .ne 15, 3, 88, 0, (0), (0), [], 0)) ((72, .iconst 2, 1, 0, 0, (2), (0), [], 0))) ((71, .iload_n 1, 1, 1, 0, (0), (0), [], 0)))) (cond (Nat.ble 63 pc) (cond (Nat.ble 65 pc) (cond (Nat.ble 68 pc) ((68, .ifCond .ne 17, 3, 85, 0, (0), (0), [], 0)) ((65, .invokevirtual 233, 3, 4, 1, (0), (0), [], 877))) ((63, .aload 5, 2, 5, 0, (0), (0), [], 0))) (cond (Nat.ble 60 pc) ((60, .if_icmp .eq 11, 3, 71, 0, (0), (0), [], 0)) ((59, .iconst 1, 1, 0, 0, (1), (0), [], 0))))) (cond (Nat.ble 48 pc) (cond (Nat.ble 52 pc) (cond (Nat.ble 55 pc) (cond (Nat.ble 58 pc) ((58, .iload_n 1, 1, 1, 0, (0), (0), [], 0)) ((55, .ifCond .eq 30, 3, 85, 0, (0), (0), [], 0))) ((52, .invokevirtual 180, 3, 1, 1, (0), (0), [], 802))) (cond (Nat.ble 50 pc) ((50, .aload 5, 2, 5, 0, (0), (0), [], 0)) ((48, .astore 5, 2, 5, 0, (0), (0), [], 0)))) (cond (Nat.ble 43 pc) (cond (Nat.ble 46 pc) (cond (Nat.ble 47 pc) ((47, .aaload, 1, 0, 0, (0), (0), [], 0)) ((46, .iload_n 2, 1, 2, 0, (0), (0), [], 0))) ((43, .getfield 18, 3, 11, 1, (0), (0), [], 661))) (cond (Nat.ble 42 pc) ((42, .aload_n 0, 1, 0, 0, (0), (0), [], 0)) ((41, .ireturn, 1, 0, 0, (0), (0), [], 0)))))) (cond (Nat.ble 18 pc) (cond (Nat.ble 30 pc) (cond (Nat.ble 33 pc) (cond (Nat.ble 36 pc) (cond (Nat.ble 39 pc) ((39, .bipush (-2), 2, 0, 0, (-2), (0), [], 0)) ((36, .ifCond .ne 6, 3, 42, 0, (0), (0), [], 0))) ((33, .invokestatic 86, 3, 70, 3, (0), (0), [], 707))) (cond (Nat.ble 31 pc) ((31, .bipush 9, 2, 0, 0, (9), (0), [], 0)) ((30, .iconst 1, 1, 0, 0, (1), (0), [], 0)))) (cond (Nat.ble 22 pc) (cond (Nat.ble 25 pc) (cond (Nat.ble 28 pc) ((28, .iload 4, 2, 4, 0, (0), (0), [], 0)) ((25, .ifCond .eq 14, 3, 39, 0, (0), (0), [], 0))) ((22, .invokestatic 86, 3, 70, 3, (0), (0), [], 707))) (cond (Nat.ble 19 pc) ((19, .sipush 9999, 3, 0, 0, (9999), (0), [], 0)) ((18, .iconst 1, 1, 0, 0, (1), (0), [], 0))))) (cond (Nat.ble 9 pc) (cond (Nat.ble 11 pc) (cond (Nat.ble 14 pc) (cond (Nat.ble 17 pc) ((17, .iload_n 3, 1, 3, 0, (0), (0), [], 0)) ((14, .ifCond .eq 25, 3, 39, 0, (0), (0), [], 0))) ((11, .invokevirtual 161, 3, 83, 2, (0), (0), [], 786))) (cond (Nat.ble 10 pc) ((10, .iload_n 2, 1, 2, 0, (0), (0), [], 0)) ((9, .aload_n 0, 1, 0, 0, (0), (0), [], 0)))) (cond (Nat.ble 2 pc) (cond (Nat.ble 3 pc) (cond (Nat.ble 6 pc) ((6, .ifCond .eq 33, 3, 39, 0, (0), (0), [], 0)) ((3, .invokestatic 86, 3, 70, 3, (0), (0), [], 707))) ((2, .iconst 5, 1, 0, 0, (5), (0), [], 0))) (cond (Nat.ble 1 pc) ((1, .iconst 0, 1, 0, 0, (0), (0), [], 0)) ((0, .iload_n 1, 1, 1, 0, (0), (0), [], 0)))))))
def pg_94 (pc : Nat) : RI := cond (Nat.ble 71 pc) (cond (Nat.ble 89 pc) (cond (Nat.ble 98 pc) (cond (Nat.ble 102 pc) (cond (Nat.ble 103 pc) (cond (Nat.ble 105 pc) ((105, .ireturn, 1, 0, 0, (0), (0), [], 0)) ((103, .bipush (-2), 2, 0, 0, (-2), (0), [], 0))) ((102, .ireturn, 1, 0, 0, (0), (0), [], 0))) (cond (Nat.ble 99 pc) ((99, .getfield 263, 3, 10, 5, (1), (0), [], 370)) ((98, .aload_n 3, 1, 3, 0, (0), (0), [], 0)))) (cond (Nat.ble 93 pc) (cond (Nat.ble 96 pc) (cond (Nat.ble 97 pc) ((97, .ireturn, 1, 0, 0, (0), (0), [], 0)) ((96, .iconst 0, 1, 0, 0, (0), (0), [], 0))) ((93, .goto 4, 3, 97, 0, (0), (0), [], 0))) (cond (Nat.ble 92 pc) ((92, .iconst 1, 1, 0, 0, (1), (0), [], 0)) ((89, .ifCond .eq 7, 3, 96, 0, (0), (0), [], 0))))) (cond (Nat.ble 80 pc) (cond (Nat.ble 84 pc) (cond (Nat.ble 85 pc) (cond (Nat.ble 86 pc) ((86, .getfield 260, 3, 10, 7, (1), (0), [(0, 0)], 373)) ((85, .aload_n 3, 1, 3, 0, (0), (0), [], 0))) ((84, .ireturn, 1, 0, 0, (0), (0), [], 0))) (cond (Nat.ble 81 pc) ((81, .getfield 257, 3, 10, 4, (1), (0), [], 369)) ((80, .aload_n 3, 1, 3, 0, (0), (0), [], 0)))) (cond (Nat.ble 75 pc) (cond (Nat.ble 76 pc) (cond (Nat.ble 79 pc) ((79, .ireturn, 1, 0, 0, (0), (0), [], 0)) ((76, .getfield 254, 3, 10, 3, (1), (0), [], 367))) ((75, .aload_n 3, 1, 3, 0, (0), (0), [], 0))) (cond (Nat.ble 74 pc) ((74, .ireturn, 1, 0, 0, (0), (0), [], 0)) ((71, .getfield 251, 3, 10, 2, (1), (0), [], 365)))))) (cond (Nat.ble 17 pc) (cond (Nat.ble 64 pc) (cond (Nat.ble 66 pc) (cond (Nat.ble 69 pc) (cond (Nat.ble 70 pc) ((70, .aload_n 3, 1, 3, 0, (0), (0), [], 0)) ((69, .ireturn, 1, 0, 0, (0), (0), [], 0))) ((66, .getfield 248, 3, 10, 1, (1), (0), [], 363))) (cond (Nat.ble 65 pc) ((65, .aload_n 3, 1, 3, 0, (0), (0), [], 0)) ((64, .ireturn, 1, 0, 0, (0), (0), [], 0)))) (cond (Nat.ble 19 pc) (cond (Nat.ble 60 pc) (cond (Nat.ble 61 pc) ((61, .getfield 245, 3, 10, 0, (1), (0), [], 361)) ((60, .aload_n 3, 1, 3, 0, (0), (0), [], 0))) ((19, .tableswitch 84 0 6 #[41, 46, 51, 56, 61, 66, 79], 41, 103, 0, (0), (0), [((0), 60), ((1), 65), ((2), 70), ((3), 75), ((4), 80), ((5), 85), ((6), 98)], 0))) (cond (Nat.ble 18 pc) ((18, .iload_n 2, 1, 2, 0, (0), (0), [], 0)) ((17, .astore_n 3, 1, 3, 0, (0), (0), [], 0))))) (cond (Nat.ble 10 pc) (cond (Nat.ble 12 pc) (cond (Nat.ble 15 pc) (cond (Nat.ble 16 pc) ((16, .aaload, 1, 0, 0, (0), (0), [], 0)) ((15, .iload_n 1, 1, 1, 0, (0), (0), [], 0))) ((12, .getfield 24, 3, 11, 2, (0), (0), [], 662))) (cond (Nat.ble 11 pc) ((11, .aload_n 0, 1, 0, 0, (0), (0), [], 0)) ((10, .ireturn, 1, 0, 0, (0), (0), [], 0)))) (cond (Nat.ble 2 pc) (cond (Nat.ble 5 pc) (cond (Nat.ble 8 pc) ((8, .bipush (-2), 2, 0, 0, (-2), (0), [], 0)) ((5, .ifCond .ne 6, 3, 11, 0, (0), (0), [], 0))) ((2, .invokevirtual 242, 3, 95, 2, (0), (0), [], 893))) (cond (Nat.ble 1 pc) ((1, .iload_n 1, 1, 1, 0, (0), (0), [], 0)) ((0, .aload_n 0, 1, 0, 0, (0), (0), [], 0))))))
def pg_95 (pc : Nat) : RI := cond (Nat.ble 6 pc) (cond (Nat.ble 8 pc) (cond (Nat.ble 11 pc) ((11, .ireturn, 1, 1, 0, (0), (0), [], 0)) ((8, .invokestatic 86, 3, 70, 3, (0), (0), [], 707))) (cond (Nat.ble 7 pc) ((7, .isub, 1, 0, 0, (0), (0), [], 0)) ((6, .iconst 1, 1, 0, 0, (1), (0), [], 0)))) (cond (Nat.ble 2 pc) (cond (Nat.ble 3 pc) ((3, .getfield 207, 3, 11, 10, (0), (0), [], 670)) ((2, .aload_n 0, 1, 0, 0, (0), (0), [], 0))) (cond (Nat.ble 1 pc) ((1, .iconst 0, 1, 0, 0, (0), (0), [], 0)) ((0, .iload_n 1, 1, 1, 0, (0), (0), [], 0))))
def pg_96 (pc : Nat) : RI := cond (Nat.ble 30 pc) (cond (Nat.ble 42 pc) (cond (Nat.ble 49 pc) (cond (Nat.ble 53 pc) (cond (Nat.ble 54 pc) ((54, .ireturn, 1, 0, 0, (0), (0), [], 0)) ((53, .iconst 1, 1, 0, 0, (1), (0), [], 0))) (cond (Nat.ble 50 pc) ((50, .putfield 248, 3, 10, 1, (1), (0), [], 363)) ((49, .iload_n 2, 1, 2, 0, (0), (0), [], 0)))) (cond (Nat.ble 47 pc) (cond (Nat.ble 48 pc) ((48, .aload_n 3, 1, 3, 0, (0), (0), [], 0)) ((47, .ireturn, 1, 0, 0, (0), (0), [], 0))) (cond (Nat.ble 45 pc) ((45, .bipush (-3), 2, 0, 0, (-3), (0), [], 0)) ((42, .ifCond .ne 6, 3, 48, 0, (0), (0), [], 0))))) (cond (Nat.ble 36 pc) (cond (Nat.ble 38 pc) (cond (Nat.ble 39 pc) ((39, .invokevirtual 266, 3, 67, 1, (0), (0), [], 901)) ((38, .aload_n 3, 1, 3, 0, (0), (0), [], 0))) (cond (Nat.ble 37 pc) ((37, .astore_n 3, 1, 3, 0, (0), (0), [], 0)) ((36, .aaload, 1, 0, 0, (0), (0), [], 0)))) (cond (Nat.ble 32 pc) (cond (Nat.ble 35 pc) ((35, .iload_n 1, 1, 1, 0, (0), (0), [], 0)) ((32, .getfield 24, 3, 11, 2, (0), (0), [], 662))) (cond (Nat.ble 31 pc) ((31, .aload_n 0, 1, 0, 0, (0), (0), [], 0)) ((30, .ireturn, 1, 0, 0, (0), (0), [], 0)))))) (cond (Nat.ble 13 pc) (cond (Nat.ble 21 pc) (cond (Nat.ble 25 pc) (cond (Nat.ble 28 pc) ((28, .bipush (-2), 2, 0, 0, (-2), (0), [], 0)) ((25, .ifCond .eq 6, 3, 31, 0, (0), (0), [], 0))) (cond (Nat.ble 22 pc) ((22, .getfield 173, 3, 0, 2, (1), (0), [(0, 0)], 321)) ((21, .aaload, 1, 0, 0, (0), (0), [], 0)))) (cond (Nat.ble 17 pc) (cond (Nat.ble 20 pc) ((20, .iload_n 2, 1, 2, 0, (0), (0), [], 0)) ((17, .getfield 18, 3, 11, 1, (0), (0), [], 661))) (cond (Nat.ble 16 pc) ((16, .aload_n 0, 1, 0, 0, (0), (0), [], 0)) ((13, .ifCond .eq 15, 3, 28, 0, (0), (0), [], 0))))) (cond (Nat.ble 5 pc) (cond (Nat.ble 9 pc) (cond (Nat.ble 10 pc) ((10, .invokevirtual 161, 3, 83, 2, (0), (0), [], 786)) ((9, .iload_n 2, 1, 2, 0, (0), (0), [], 0))) (cond (Nat.ble 8 pc) ((8, .aload_n 0, 1, 0, 0, (0), (0), [], 0)) ((5, .ifCond .eq 23, 3, 28, 0, (0), (0), [], 0)))) (cond (Nat.ble 1 pc) (cond (Nat.ble 2 pc) ((2, .invokevirtual 242, 3, 95, 2, (0), (0), [], 893)) ((1, .iload_n 1, 1, 1, 0, (0), (0), [], 0))) ((0, .aload_n 0, 1, 0, 0, (0), (0), [], 0)))))
def pg_97 (pc : Nat) : RI := cond (Nat.ble 26 pc) (cond (Nat.ble 40 pc) (cond (Nat.ble 48 pc) (cond (Nat.ble 52 pc) (cond (Nat.ble 55 pc) ((55, .ireturn, 1, 0, 0, (0), (0), [], 0)) ((52, .getfield 170, 3, 0, 6, (1), (0), [], 331))) (cond (Nat.ble 51 pc) ((51, .aload_n 2, 1, 2, 0, (0), (0), [], 0)) ((48, .putfield 269, 3, 0, 7, (1), (0), [], 332)))) (cond (Nat.ble 44 pc) (cond (Nat.ble 45 pc) ((45, .getfield 191, 3, 11, 13, (0), (0), [], 673)) ((44, .aload_n 0, 1, 0, 0, (0), (0), [], 0))) (cond (Nat.ble 43 pc) ((43, .aload_n 2, 1, 2, 0, (0), (0), [], 0)) ((40, .putfield 170, 3, 0, 6, (1), (0), [], 331))))) (cond (Nat.ble 34 pc) (cond (Nat.ble 36 pc) (cond (Nat.ble 37 pc) ((37, .getfield 158, 3, 0, 4, (1), (0), [], 326)) ((36, .aload_n 2, 1, 2, 0, (0), (0), [], 0))) (cond (Nat.ble 35 pc) ((35, .aload_n 2, 1, 2, 0, (0), (0), [], 0)) ((34, .ireturn, 1, 0, 0, (0), (0), [], 0)))) (cond (Nat.ble 29 pc) (cond (Nat.ble 32 pc) ((32, .bipush (-3), 2, 0, 0, (-3), (0), [], 0)) ((29, .ifCond .eq 6, 3, 35, 0, (0), (0), [], 0))) ((26, .invokevirtual 233, 3, 4, 1, (0), (0), [], 877))))) (cond (Nat.ble 12 pc) (cond (Nat.ble 18 pc) (cond (Nat.ble 22 pc) (cond (Nat.ble 25 pc) ((25, .aload_n 2, 1, 2, 0, (0), (0), [], 0)) ((22, .ifCond .eq 10, 3, 32, 0, (0), (0), [], 0))) (cond (Nat.ble 19 pc) ((19, .invokevirtual 180, 3, 1, 1, (0), (0), [], 802)) ((18, .aload_n 2, 1, 2, 0, (0), (0), [], 0)))) (cond (Nat.ble 16 pc) (cond (Nat.ble 17 pc) ((17, .astore_n 2, 1, 2, 0, (0), (0), [], 0)) ((16, .aaload, 1, 0, 0, (0), (0), [], 0))) (cond (Nat.ble 15 pc) ((15, .iload_n 1, 1, 1, 0, (0), (0), [], 0)) ((12, .getfield 18, 3, 11, 1, (0), (0), [], 661))))) (cond (Nat.ble 5 pc) (cond (Nat.ble 10 pc) (cond (Nat.ble 11 pc) ((11, .aload_n 0, 1, 0, 0, (0), (0), [], 0)) ((10, .ireturn, 1, 0, 0, (0), (0), [], 0))) (cond (Nat.ble 8 pc) ((8, .bipush (-2), 2, 0, 0, (-2), (0), [], 0)) ((5, .ifCond .ne 6, 3, 11, 0, (0), (0), [], 0)))) (cond (Nat.ble 1 pc) (cond (Nat.ble 2 pc) ((2, .invokevirtual 161, 3, 83, 2, (0), (0), [], 786)) ((1, .iload_n 1, 1, 1, 0, (0), (0), [], 0))) ((0, .aload_n 0, 1, 0, 0, (0), (0), [], 0)))))
def pg_98 (pc : Nat) : RI := cond (Nat.ble 94 pc) (cond (Nat.ble 138 pc) (cond (Nat.ble 162 pc) (cond (Nat.ble 173 pc) (cond (Nat.ble 178 pc) (cond (Nat.ble 182 pc) (cond (Nat.ble 185 pc) ((185, .ireturn, 1, 0, 0, (0), (0), [], 0)) ((182, .getfield 158, 3, 0, 4, (1), (0), [], 326))) (cond (Nat.ble 181 pc) ((181, .aload_n 2, 1, 2, 0, (0), (0), [], 0)) ((178, .putfield 170, 3, 0, 6, (1), (0), [], 331)))) (cond (Nat.ble 176 pc) (cond (Nat.ble 177 pc) ((177, .iconst (-1), 1, 0, 0, (-1), (0), [], 0)) ((176, .aload_n 2, 1, 2, 0, (0), (0), [], 0))) ((173, .goto (-41), 3, 132, 0, (0), (0), [], 0)))) (cond (Nat.ble 165 pc) (cond (Nat.ble 167 pc) (cond (Nat.ble 170 pc) ((170, .iinc 6 1, 3, 6, 0, (1), (0), [], 0)) ((167, .invokevirtual 302, 3, 103, 5, (0), (0), [], 967))) ((165, .lload 4, 2, 4, 0, (0), (0), [], 0))) (cond (Nat.ble 163 pc) (cond (Nat.ble 164 pc) ((164, .iload_n 3, 1, 3, 0, (0), (0), [], 0)) ((163, .aload_n 2, 1, 2, 0, (0), (0), [], 0))) ((162, .aaload, 1, 0, 0, (0), (0), [], 0))))) (cond (Nat.ble 149 pc) (cond (Nat.ble 156 pc) (cond (Nat.ble 157 pc) (cond (Nat.ble 160 pc) ((160, .iload 6, 2, 6, 0, (0), (0), [], 0)) ((157, .getfield 24, 3, 11, 2, (0), (0), [], 662))) ((156, .aload_n 0, 1, 0, 0, (0), (0), [], 0))) (cond (Nat.ble 152 pc) (cond (Nat.ble 155 pc) ((155, .aload_n 0, 1, 0, 0, (0), (0), [], 0)) ((152, .ifCond .eq 18, 3, 170, 0, (0), (0), [], 0))) ((149, .invokevirtual 210, 3, 63, 2, (0), (0), [], 853)))) (cond (Nat.ble 145 pc) (cond (Nat.ble 147 pc) (cond (Nat.ble 148 pc) ((148, .iload_n 1, 1, 1, 0, (0), (0), [], 0)) ((147, .aaload, 1, 0, 0, (0), (0), [], 0))) ((145, .iload 6, 2, 6, 0, (0), (0), [], 0))) (cond (Nat.ble 141 pc) (cond (Nat.ble 142 pc) ((142, .getfield 24, 3, 11, 2, (0), (0), [], 662)) ((141, .aload_n 0, 1, 0, 0, (0), (0), [], 0))) ((138, .if_icmp .ge 38, 3, 176, 0, (0), (0), [], 0)))))) (cond (Nat.ble 114 pc) (cond (Nat.ble 124 pc) (cond (Nat.ble 130 pc) (cond (Nat.ble 134 pc) (cond (Nat.ble 135 pc) ((135, .getfield 207, 3, 11, 10, (0), (0), [], 670)) ((134, .aload_n 0, 1, 0, 0, (0), (0), [], 0))) (cond (Nat.ble 132 pc) ((132, .iload 6, 2, 6, 0, (0), (0), [], 0)) ((130, .istore 6, 2, 6, 0, (0), (0), [], 0)))) (cond (Nat.ble 127 pc) (cond (Nat.ble 129 pc) ((129, .iconst 0, 1, 0, 0, (0), (0), [], 0)) ((127, .lstore 4, 2, 4, 0, (0), (0), [], 0))) ((124, .invokevirtual 298, 3, 101, 2, (0), (0), [], 959)))) (cond (Nat.ble 121 pc) (cond (Nat.ble 122 pc) (cond (Nat.ble 123 pc) ((123, .iload_n 1, 1, 1, 0, (0), (0), [], 0)) ((122, .aload_n 0, 1, 0, 0, (0), (0), [], 0))) ((121, .istore_n 3, 1, 3, 0, (0), (0), [], 0))) (cond (Nat.ble 117 pc) (cond (Nat.ble 118 pc) ((118, .invokestatic 186, 3, 1001, 2, (0), (0), [], 758)) ((117, .isub, 1, 0, 0, (0), (0), [], 0))) ((114, .getfield 170, 3, 0, 6, (1), (0), [], 331))))) (cond (Nat.ble 104 pc) (cond (Nat.ble 109 pc) (cond (Nat.ble 110 pc) (cond (Nat.ble 113 pc) ((113, .aload_n 2, 1, 2, 0, (0), (0), [], 0)) ((110, .getfield 158, 3, 0, 4, (1), (0), [], 326))) ((109, .aload_n 2, 1, 2, 0, (0), (0), [], 0))) (cond (Nat.ble 105 pc) (cond (Nat.ble 108 pc) ((108, .iconst 0, 1, 0, 0, (0), (0), [], 0)) ((105, .invokevirtual 294, 3, 100, 2, (0), (0), [], 955))) ((104, .iload_n 1, 1, 1, 0, (0), (0), [], 0)))) (cond (Nat.ble 99 pc) (cond (Nat.ble 102 pc) (cond (Nat.ble 103 pc) ((103, .aload_n 0, 1, 0, 0, (0), (0), [], 0)) ((102, .pop, 1, 0, 0, (0), (0), [], 0))) ((99, .invokevirtual 291, 3, 5, 2, (0), (0), [], 950))) (cond (Nat.ble 95 pc) (cond (Nat.ble 96 pc) ((96, .invokevirtual 287, 3, 37, 3, (0), (0), [], 926)) ((95, .iconst 1, 1, 0, 0, (1), (0), [], 0))) ((94, .aaload, 1, 0, 0, (0), (0), [], 0))))))) (cond (Nat.ble 47 pc) (cond (Nat.ble 69 pc) (cond (Nat.ble 81 pc) (cond (Nat.ble 86 pc) (cond (Nat.ble 90 pc) (cond (Nat.ble 91 pc) ((91, .getfield 284, 3, 11, 12, (0), (0), [], 672)) ((90, .aload_n 0, 1, 0, 0, (0), (0), [], 0))) (cond (Nat.ble 87 pc) ((87, .getfield 30, 3, 11, 3, (0), (0), [], 663)) ((86, .aload_n 0, 1, 0, 0, (0), (0), [], 0)))) (cond (Nat.ble 82 pc) (cond (Nat.ble 83 pc) ((83, .getfield 59, 3, 11, 7, (0), (0), [], 667)) ((82, .aload_n 0, 1, 0, 0, (0), (0), [], 0))) ((81, .aload_n 2, 1, 2, 0, (0), (0), [], 0)))) (cond (Nat.ble 76 pc) (cond (Nat.ble 77 pc) (cond (Nat.ble 78 pc) ((78, .invokevirtual 281, 3, 36, 3, (0), (0), [], 922)) ((77, .iconst 0, 1, 0, 0, (0), (0), [], 0))) ((76, .iconst 0, 1, 0, 0, (0), (0), [], 0))) (cond (Nat.ble 72 pc) (cond (Nat.ble 73 pc) ((73, .getfield 59, 3, 11, 7, (0), (0), [], 667)) ((72, .aload_n 0, 1, 0, 0, (0), (0), [], 0))) ((69, .invokevirtual 278, 3, 35, 5, (0), (0), [], 918))))) (cond (Nat.ble 57 pc) (cond (Nat.ble 62 pc) (cond (Nat.ble 63 pc) (cond (Nat.ble 66 pc) ((66, .invokestatic 275, 3, 80, 1, (0), (0), [], 917)) ((63, .getfield 191, 3, 11, 13, (0), (0), [], 673))) ((62, .aload_n 0, 1, 0, 0, (0), (0), [], 0))) (cond (Nat.ble 58 pc) (cond (Nat.ble 59 pc) ((59, .invokevirtual 272, 3, 99, 2, (0), (0), [], 913)) ((58, .iload_n 1, 1, 1, 0, (0), (0), [], 0))) ((57, .aload_n 0, 1, 0, 0, (0), (0), [], 0)))) (cond (Nat.ble 52 pc) (cond (Nat.ble 53 pc) (cond (Nat.ble 56 pc) ((56, .isub, 1, 0, 0, (0), (0), [], 0)) ((53, .getfield 269, 3, 0, 7, (1), (0), [], 332))) ((52, .aload_n 2, 1, 2, 0, (0), (0), [], 0))) (cond (Nat.ble 48 pc) (cond (Nat.ble 49 pc) ((49, .getfield 191, 3, 11, 13, (0), (0), [], 673)) ((48, .aload_n 0, 1, 0, 0, (0), (0), [], 0))) ((47, .isub, 1, 0, 0, (0), (0), [], 0)))))) (cond (Nat.ble 19 pc) (cond (Nat.ble 34 pc) (cond (Nat.ble 39 pc) (cond (Nat.ble 43 pc) (cond (Nat.ble 44 pc) ((44, .getfield 170, 3, 0, 6, (1), (0), [], 331)) ((43, .aload_n 2, 1, 2, 0, (0), (0), [], 0))) (cond (Nat.ble 40 pc) ((40, .getfield 158, 3, 0, 4, (1), (0), [], 326)) ((39, .aload_n 2, 1, 2, 0, (0), (0), [], 0)))) (cond (Nat.ble 35 pc) (cond (Nat.ble 36 pc) ((36, .getfield 59, 3, 11, 7, (0), (0), [], 667)) ((35, .aload_n 0, 1, 0, 0, (0), (0), [], 0))) ((34, .ireturn, 1, 0, 0, (0), (0), [], 0)))) (cond (Nat.ble 26 pc) (cond (Nat.ble 29 pc) (cond (Nat.ble 32 pc) ((32, .bipush (-3), 2, 0, 0, (-3), (0), [], 0)) ((29, .ifCond .ne 6, 3, 35, 0, (0), (0), [], 0))) ((26, .invokevirtual 233, 3, 4, 1, (0), (0), [], 877))) (cond (Nat.ble 22 pc) (cond (Nat.ble 25 pc) ((25, .aload_n 2, 1, 2, 0, (0), (0), [], 0)) ((22, .ifCond .eq 10, 3, 32, 0, (0), (0), [], 0))) ((19, .invokevirtual 180, 3, 1, 1, (0), (0), [], 802))))) (cond (Nat.ble 11 pc) (cond (Nat.ble 16 pc) (cond (Nat.ble 17 pc) (cond (Nat.ble 18 pc) ((18, .aload_n 2, 1, 2, 0, (0), (0), [], 0)) ((17, .astore_n 2, 1, 2, 0, (0), (0), [], 0))) ((16, .aaload, 1, 0, 0, (0), (0), [], 0))) (cond (Nat.ble 12 pc) (cond (Nat.ble 15 pc) ((15, .iload_n 1, 1, 1, 0, (0), (0), [], 0)) ((12, .getfield 18, 3, 11, 1, (0), (0), [], 661))) ((11, .aload_n 0, 1, 0, 0, (0), (0), [], 0)))) (cond (Nat.ble 5 pc) (cond (Nat.ble 8 pc) (cond (Nat.ble 10 pc) ((10, .ireturn, 1, 0, 0, (0), (0), [], 0)) ((8, .bipush (-2), 2, 0, 0, (-2), (0), [], 0))) ((5, .ifCond .ne 6, 3, 11, 0, (0), (0), [], 0))) (cond (Nat.ble 1 pc) (cond (Nat.ble 2 pc) ((2, .invokevirtual 161, 3, 83, 2, (0), (0), [], 786)) ((1, .iload_n 1, 1, 1, 0, (0), (0), [], 0))) ((0, .aload_n 0, 1, 0, 0, (0), (0), [], 0)))))))
def pg_99 (pc : Nat) : RI := cond (Nat.ble 23 pc) (cond (Nat.ble 40 pc) (cond (Nat.ble 50 pc) (cond (Nat.ble 56 pc) (cond (Nat.ble 57 pc) ((57, .ireturn, 1, 0, 0, (0), (0), [], 0)) ((56, .iload_n 2, 1, 2, 0, (0), (0), [], 0))) (cond (Nat.ble 53 pc) ((53, .goto (-49), 3, 4, 0, (0), (0), [], 0)) ((50, .iinc 3 1, 3, 3, 0, (1), (0), [], 0)))) (cond (Nat.ble 44 pc) (cond (Nat.ble 47 pc) ((47, .iinc 2 1, 3, 2, 0, (1), (0), [], 0)) ((44, .if_icmp .ne 6, 3, 50, 0, (0), (0), [], 0))) (cond (Nat.ble 43 pc) ((43, .iconst 2, 1, 0, 0, (2), (0), [], 0)) ((40, .getfield 245, 3, 10, 0, (1), (0), [], 361))))) (cond (Nat.ble 31 pc) (cond (Nat.ble 35 pc) (cond (Nat.ble 38 pc) ((38, .aload 4, 2, 4, 0, (0), (0), [], 0)) ((35, .if_icmp .eq 12, 3, 47, 0, (0), (0), [], 0))) (cond (Nat.ble 34 pc) ((34, .iconst 1, 1, 0, 0, (1), (0), [], 0)) ((31, .getfield 245, 3, 10, 0, (1), (0), [], 361)))) (cond (Nat.ble 26 pc) (cond (Nat.ble 29 pc) ((29, .aload 4, 2, 4, 0, (0), (0), [], 0)) ((26, .ifCond .eq 24, 3, 50, 0, (0), (0), [], 0))) ((23, .invokevirtual 210, 3, 63, 2, (0), (0), [], 853))))) (cond (Nat.ble 9 pc) (cond (Nat.ble 17 pc) (cond (Nat.ble 20 pc) (cond (Nat.ble 22 pc) ((22, .iload_n 1, 1, 1, 0, (0), (0), [], 0)) ((20, .aload 4, 2, 4, 0, (0), (0), [], 0))) (cond (Nat.ble 18 pc) ((18, .astore 4, 2, 4, 0, (0), (0), [], 0)) ((17, .aaload, 1, 0, 0, (0), (0), [], 0)))) (cond (Nat.ble 13 pc) (cond (Nat.ble 16 pc) ((16, .iload_n 3, 1, 3, 0, (0), (0), [], 0)) ((13, .getfield 24, 3, 11, 2, (0), (0), [], 662))) (cond (Nat.ble 12 pc) ((12, .aload_n 0, 1, 0, 0, (0), (0), [], 0)) ((9, .if_icmp .ge 47, 3, 56, 0, (0), (0), [], 0))))) (cond (Nat.ble 3 pc) (cond (Nat.ble 5 pc) (cond (Nat.ble 6 pc) ((6, .getfield 207, 3, 11, 10, (0), (0), [], 670)) ((5, .aload_n 0, 1, 0, 0, (0), (0), [], 0))) (cond (Nat.ble 4 pc) ((4, .iload_n 3, 1, 3, 0, (0), (0), [], 0)) ((3, .istore_n 3, 1, 3, 0, (0), (0), [], 0)))) (cond (Nat.ble 1 pc) (cond (Nat.ble 2 pc) ((2, .iconst 0, 1, 0, 0, (0), (0), [], 0)) ((1, .istore_n 2, 1, 2, 0, (0), (0), [], 0))) ((0, .iconst 0, 1, 0, 0, (0), (0), [], 0)))))
def pg_100 (pc : Nat) : RI := cond (Nat.ble 30 pc) (cond (Nat.ble 45 pc) (cond (Nat.ble 56 pc) (cond (Nat.ble 60 pc) (cond (Nat.ble 63 pc) (cond (Nat.ble 66 pc) ((66, .return_, 1, 0, 0, (0), (0), [], 0)) ((63, .goto (-61), 3, 2, 0, (0), (0), [], 0))) ((60, .iinc 2 1, 3, 2, 0, (1), (0), [], 0))) (cond (Nat.ble 57 pc) ((57, .putfield 260, 3, 10, 7, (1), (0), [(0, 0)], 373)) ((56, .iconst 1, 1, 0, 0, (1), (0), [], 0)))) (cond (Nat.ble 51 pc) (cond (Nat.ble 52 pc) (cond (Nat.ble 55 pc) ((55, .aload_n 3, 1, 3, 0, (0), (0), [], 0)) ((52, .putfield 263, 3, 10, 5, (1), (0), [], 370))) ((51, .iadd, 1, 0, 0, (0), (0), [], 0))) (cond (Nat.ble 48 pc) ((48, .invokevirtual 291, 3, 5, 2, (0), (0), [], 950)) ((45, .getfield 257, 3, 10, 4, (1), (0), [], 369))))) (cond (Nat.ble 38 pc) (cond (Nat.ble 42 pc) (cond (Nat.ble 43 pc) (cond (Nat.ble 44 pc) ((44, .aload_n 3, 1, 3, 0, (0), (0), [], 0)) ((43, .aaload, 1, 0, 0, (0), (0), [], 0))) ((42, .iload_n 1, 1, 1, 0, (0), (0), [], 0))) (cond (Nat.ble 39 pc) ((39, .getfield 18, 3, 11, 1, (0), (0), [], 661)) ((38, .aload_n 0, 1, 0, 0, (0), (0), [], 0)))) (cond (Nat.ble 34 pc) (cond (Nat.ble 35 pc) ((35, .getfield 263, 3, 10, 5, (1), (0), [], 370)) ((34, .dup, 1, 0, 0, (0), (0), [], 0))) (cond (Nat.ble 33 pc) ((33, .aload_n 3, 1, 3, 0, (0), (0), [], 0)) ((30, .if_icmp .ne 30, 3, 60, 0, (0), (0), [], 0)))))) (cond (Nat.ble 15 pc) (cond (Nat.ble 19 pc) (cond (Nat.ble 25 pc) (cond (Nat.ble 26 pc) (cond (Nat.ble 29 pc) ((29, .iconst 5, 1, 0, 0, (5), (0), [], 0)) ((26, .getfield 245, 3, 10, 0, (1), (0), [], 361))) ((25, .aload_n 3, 1, 3, 0, (0), (0), [], 0))) (cond (Nat.ble 22 pc) ((22, .ifCond .eq 38, 3, 60, 0, (0), (0), [], 0)) ((19, .invokevirtual 210, 3, 63, 2, (0), (0), [], 853)))) (cond (Nat.ble 17 pc) (cond (Nat.ble 18 pc) ((18, .iload_n 1, 1, 1, 0, (0), (0), [], 0)) ((17, .aload_n 3, 1, 3, 0, (0), (0), [], 0))) (cond (Nat.ble 16 pc) ((16, .astore_n 3, 1, 3, 0, (0), (0), [], 0)) ((15, .aaload, 1, 0, 0, (0), (0), [], 0))))) (cond (Nat.ble 4 pc) (cond (Nat.ble 10 pc) (cond (Nat.ble 11 pc) (cond (Nat.ble 14 pc) ((14, .iload_n 2, 1, 2, 0, (0), (0), [], 0)) ((11, .getfield 24, 3, 11, 2, (0), (0), [], 662))) ((10, .aload_n 0, 1, 0, 0, (0), (0), [], 0))) (cond (Nat.ble 7 pc) ((7, .if_icmp .ge 59, 3, 66, 0, (0), (0), [], 0)) ((4, .getfield 207, 3, 11, 10, (0), (0), [], 670)))) (cond (Nat.ble 2 pc) (cond (Nat.ble 3 pc) ((3, .aload_n 0, 1, 0, 0, (0), (0), [], 0)) ((2, .iload_n 2, 1, 2, 0, (0), (0), [], 0))) (cond (Nat.ble 1 pc) ((1, .istore_n 2, 1, 2, 0, (0), (0), [], 0)) ((0, .iconst 0, 1, 0, 0, (0), (0), [], 0))))))
def pg_101 (pc : Nat) : RI := cond (Nat.ble 29 pc) (cond (Nat.ble 46 pc) (cond (Nat.ble 52 pc) (cond (Nat.ble 58 pc) (cond (Nat.ble 59 pc) ((59, .lreturn, 1, 0, 0, (0), (0), [], 0)) ((58, .lload_n 2, 1, 2, 0, (0), (0), [], 0))) (cond (Nat.ble 55 pc) ((55, .goto (-50), 3, 5, 0, (0), (0), [], 0)) ((52, .iinc 4 1, 3, 4, 0, (1), (0), [], 0)))) (cond (Nat.ble 50 pc) (cond (Nat.ble 51 pc) ((51, .lstore_n 2, 1, 2, 0, (0), (0), [], 0)) ((50, .ladd, 1, 0, 0, (0), (0), [], 0))) (cond (Nat.ble 49 pc) ((49, .i2l, 1, 0, 0, (0), (0), [], 0)) ((46, .getfield 384, 3, 10, 6, (1), (0), [], 371))))) (cond (Nat.ble 37 pc) (cond (Nat.ble 43 pc) (cond (Nat.ble 44 pc) ((44, .aload 5, 2, 5, 0, (0), (0), [], 0)) ((43, .lload_n 2, 1, 2, 0, (0), (0), [], 0))) (cond (Nat.ble 40 pc) ((40, .putfield 384, 3, 10, 6, (1), (0), [], 371)) ((37, .invokevirtual 380, 3, 102, 2, (0), (0), [], 963)))) (cond (Nat.ble 34 pc) (cond (Nat.ble 35 pc) ((35, .aload 5, 2, 5, 0, (0), (0), [], 0)) ((34, .aload_n 0, 1, 0, 0, (0), (0), [], 0))) (cond (Nat.ble 32 pc) ((32, .aload 5, 2, 5, 0, (0), (0), [], 0)) ((29, .ifCond .eq 23, 3, 52, 0, (0), (0), [], 0)))))) (cond (Nat.ble 14 pc) (cond (Nat.ble 21 pc) (cond (Nat.ble 25 pc) (cond (Nat.ble 26 pc) ((26, .invokevirtual 210, 3, 63, 2, (0), (0), [], 853)) ((25, .iload_n 1, 1, 1, 0, (0), (0), [], 0))) (cond (Nat.ble 23 pc) ((23, .aload 5, 2, 5, 0, (0), (0), [], 0)) ((21, .astore 5, 2, 5, 0, (0), (0), [], 0)))) (cond (Nat.ble 18 pc) (cond (Nat.ble 20 pc) ((20, .aaload, 1, 0, 0, (0), (0), [], 0)) ((18, .iload 4, 2, 4, 0, (0), (0), [], 0))) (cond (Nat.ble 15 pc) ((15, .getfield 24, 3, 11, 2, (0), (0), [], 662)) ((14, .aload_n 0, 1, 0, 0, (0), (0), [], 0))))) (cond (Nat.ble 5 pc) (cond (Nat.ble 8 pc) (cond (Nat.ble 11 pc) ((11, .if_icmp .ge 47, 3, 58, 0, (0), (0), [], 0)) ((8, .getfield 207, 3, 11, 10, (0), (0), [], 670))) (cond (Nat.ble 7 pc) ((7, .aload_n 0, 1, 0, 0, (0), (0), [], 0)) ((5, .iload 4, 2, 4, 0, (0), (0), [], 0)))) (cond (Nat.ble 2 pc) (cond (Nat.ble 3 pc) ((3, .istore 4, 2, 4, 0, (0), (0), [], 0)) ((2, .iconst 0, 1, 0, 0, (0), (0), [], 0))) (cond (Nat.ble 1 pc) ((1, .lstore_n 2, 1, 2, 0, (0), (0), [], 0)) ((0, .lconst 0, 1, 0, 0, (0), (0), [], 0))))))
def pg_102 (pc : Nat) : RI := cond (Nat.ble 31 pc) (cond (Nat.ble 48 pc) (cond (Nat.ble 56 pc) (cond (Nat.ble 58 pc) (cond (Nat.ble 61 pc) (cond (Nat.ble 62 pc) ((62, .ireturn, 1, 0, 0, (0), (0), [], 0)) ((61, .iload_n 2, 1, 2, 0, (0), (0), [], 0))) ((58, .goto 4, 3, 62, 0, (0), (0), [], 0))) (cond (Nat.ble 57 pc) ((57, .idiv, 1, 0, 0, (0), (0), [], 0)) ((56, .iconst 2, 1, 0, 0, (2), (0), [], 0)))) (cond (Nat.ble 52 pc) (cond (Nat.ble 55 pc) ((55, .iload_n 2, 1, 2, 0, (0), (0), [], 0)) ((52, .if_icmp .ne 9, 3, 61, 0, (0), (0), [], 0))) (cond (Nat.ble 51 pc) ((51, .iconst 3, 1, 0, 0, (3), (0), [], 0)) ((48, .getfield 245, 3, 10, 0, (1), (0), [], 361))))) (cond (Nat.ble 39 pc) (cond (Nat.ble 43 pc) (cond (Nat.ble 46 pc) (cond (Nat.ble 47 pc) ((47, .aload_n 1, 1, 1, 0, (0), (0), [], 0)) ((46, .istore_n 2, 1, 2, 0, (0), (0), [], 0))) ((43, .invokestatic 186, 3, 1001, 2, (0), (0), [], 758))) (cond (Nat.ble 40 pc) ((40, .invokevirtual 287, 3, 37, 3, (0), (0), [], 926)) ((39, .iconst 0, 1, 0, 0, (0), (0), [], 0)))) (cond (Nat.ble 35 pc) (cond (Nat.ble 38 pc) ((38, .aaload, 1, 0, 0, (0), (0), [], 0)) ((35, .getfield 284, 3, 11, 12, (0), (0), [], 672))) (cond (Nat.ble 34 pc) ((34, .aload_n 0, 1, 0, 0, (0), (0), [], 0)) ((31, .getfield 30, 3, 11, 3, (0), (0), [], 663)))))) (cond (Nat.ble 14 pc) (cond (Nat.ble 22 pc) (cond (Nat.ble 26 pc) (cond (Nat.ble 27 pc) (cond (Nat.ble 30 pc) ((30, .aload_n 0, 1, 0, 0, (0), (0), [], 0)) ((27, .getfield 59, 3, 11, 7, (0), (0), [], 667))) ((26, .aload_n 0, 1, 0, 0, (0), (0), [], 0))) (cond (Nat.ble 25 pc) ((25, .iconst 0, 1, 0, 0, (0), (0), [], 0)) ((22, .invokevirtual 281, 3, 36, 3, (0), (0), [], 922)))) (cond (Nat.ble 18 pc) (cond (Nat.ble 19 pc) ((19, .getfield 257, 3, 10, 4, (1), (0), [], 369)) ((18, .aload_n 1, 1, 1, 0, (0), (0), [], 0))) (cond (Nat.ble 15 pc) ((15, .getfield 254, 3, 10, 3, (1), (0), [], 367)) ((14, .aload_n 1, 1, 1, 0, (0), (0), [], 0))))) (cond (Nat.ble 8 pc) (cond (Nat.ble 10 pc) (cond (Nat.ble 11 pc) ((11, .getfield 59, 3, 11, 7, (0), (0), [], 667)) ((10, .aload_n 0, 1, 0, 0, (0), (0), [], 0))) (cond (Nat.ble 9 pc) ((9, .ireturn, 1, 0, 0, (0), (0), [], 0)) ((8, .iconst 0, 1, 0, 0, (0), (0), [], 0)))) (cond (Nat.ble 4 pc) (cond (Nat.ble 5 pc) ((5, .if_icmp .ne 5, 3, 10, 0, (0), (0), [], 0)) ((4, .iconst 4, 1, 0, 0, (4), (0), [], 0))) (cond (Nat.ble 1 pc) ((1, .getfield 245, 3, 10, 0, (1), (0), [], 361)) ((0, .aload_n 1, 1, 1, 0, (0), (0), [], 0))))))
def pg_103 (pc : Nat) : RI := cond (Nat.ble 85 pc) (cond (Nat.ble 130 pc) (cond (Nat.ble 153 pc) (cond (Nat.ble 163 pc) (cond (Nat.ble 170 pc) (cond (Nat.ble 171 pc) (cond (Nat.ble 174 pc) ((174, .return_, 1, 0, 0, (0), (0), [], 0)) ((171, .putfield 260, 3, 10, 7, (1), (0), [(0, 0)], 373))) ((170, .iconst 0, 1, 0, 0, (0), (0), [], 0))) (cond (Nat.ble 166 pc) (cond (Nat.ble 167 pc) ((167, .goto 4, 3, 171, 0, (0), (0), [], 0)) ((166, .iconst 1, 1, 0, 0, (1), (0), [], 0))) ((163, .ifCond .ne 7, 3, 170, 0, (0), (0), [], 0)))) (cond (Nat.ble 158 pc) (cond (Nat.ble 160 pc) (cond (Nat.ble 161 pc) ((161, .iload 7, 2, 7, 0, (0), (0), [], 0)) ((160, .aload_n 1, 1, 1, 0, (0), (0), [], 0))) ((158, .istore 7, 2, 7, 0, (0), (0), [], 0))) (cond (Nat.ble 154 pc) (cond (Nat.ble 157 pc) ((157, .iconst 0, 1, 0, 0, (0), (0), [], 0)) ((154, .goto 4, 3, 158, 0, (0), (0), [], 0))) ((153, .iconst 1, 1, 0, 0, (1), (0), [], 0))))) (cond (Nat.ble 139 pc) (cond (Nat.ble 146 pc) (cond (Nat.ble 147 pc) (cond (Nat.ble 150 pc) ((150, .ifCond .le 7, 3, 157, 0, (0), (0), [], 0)) ((147, .getfield 257, 3, 10, 4, (1), (0), [], 369))) ((146, .aload_n 1, 1, 1, 0, (0), (0), [], 0))) (cond (Nat.ble 142 pc) (cond (Nat.ble 143 pc) ((143, .if_icmp .ne 14, 3, 157, 0, (0), (0), [], 0)) ((142, .iconst 2, 1, 0, 0, (2), (0), [], 0))) ((139, .getfield 245, 3, 10, 0, (1), (0), [], 361)))) (cond (Nat.ble 134 pc) (cond (Nat.ble 135 pc) (cond (Nat.ble 138 pc) ((138, .aload_n 1, 1, 1, 0, (0), (0), [], 0)) ((135, .if_icmp .eq 18, 3, 153, 0, (0), (0), [], 0))) ((134, .iconst 1, 1, 0, 0, (1), (0), [], 0))) (cond (Nat.ble 131 pc) ((131, .getfield 245, 3, 10, 0, (1), (0), [], 361)) ((130, .aload_n 1, 1, 1, 0, (0), (0), [], 0)))))) (cond (Nat.ble 106 pc) (cond (Nat.ble 117 pc) (cond (Nat.ble 123 pc) (cond (Nat.ble 126 pc) (cond (Nat.ble 127 pc) ((127, .putfield 263, 3, 10, 5, (1), (0), [], 370)) ((126, .iadd, 1, 0, 0, (0), (0), [], 0))) ((123, .invokevirtual 291, 3, 5, 2, (0), (0), [], 950))) (cond (Nat.ble 120 pc) (cond (Nat.ble 121 pc) ((121, .iload 6, 2, 6, 0, (0), (0), [], 0)) ((120, .aload_n 2, 1, 2, 0, (0), (0), [], 0))) ((117, .getfield 263, 3, 10, 5, (1), (0), [], 370)))) (cond (Nat.ble 113 pc) (cond (Nat.ble 115 pc) (cond (Nat.ble 116 pc) ((116, .dup, 1, 0, 0, (0), (0), [], 0)) ((115, .aload_n 1, 1, 1, 0, (0), (0), [], 0))) ((113, .istore 6, 2, 6, 0, (0), (0), [], 0))) (cond (Nat.ble 109 pc) (cond (Nat.ble 110 pc) ((110, .getfield 251, 3, 10, 2, (1), (0), [], 365)) ((109, .aload_n 1, 1, 1, 0, (0), (0), [], 0))) ((106, .if_icmp .ne 9, 3, 115, 0, (0), (0), [], 0))))) (cond (Nat.ble 95 pc) (cond (Nat.ble 101 pc) (cond (Nat.ble 102 pc) (cond (Nat.ble 105 pc) ((105, .iconst 4, 1, 0, 0, (4), (0), [], 0)) ((102, .getfield 245, 3, 10, 0, (1), (0), [], 361))) ((101, .aload_n 1, 1, 1, 0, (0), (0), [], 0))) (cond (Nat.ble 96 pc) (cond (Nat.ble 98 pc) ((98, .goto 17, 3, 115, 0, (0), (0), [], 0)) ((96, .istore 6, 2, 6, 0, (0), (0), [], 0))) ((95, .isub, 1, 0, 0, (0), (0), [], 0)))) (cond (Nat.ble 88 pc) (cond (Nat.ble 91 pc) (cond (Nat.ble 93 pc) ((93, .iload 7, 2, 7, 0, (0), (0), [], 0)) ((91, .iload 6, 2, 6, 0, (0), (0), [], 0))) ((88, .putfield 257, 3, 10, 4, (1), (0), [], 369))) (cond (Nat.ble 87 pc) ((87, .isub, 1, 0, 0, (0), (0), [], 0)) ((85, .iload 7, 2, 7, 0, (0), (0), [], 0))))))) (cond (Nat.ble 38 pc) (cond (Nat.ble 61 pc) (cond (Nat.ble 72 pc) (cond (Nat.ble 80 pc) (cond (Nat.ble 81 pc) (cond (Nat.ble 82 pc) ((82, .getfield 257, 3, 10, 4, (1), (0), [], 369)) ((81, .dup, 1, 0, 0, (0), (0), [], 0))) ((80, .aload_n 1, 1, 1, 0, (0), (0), [], 0))) (cond (Nat.ble 75 pc) (cond (Nat.ble 78 pc) ((78, .istore 7, 2, 7, 0, (0), (0), [], 0)) ((75, .invokestatic 141, 3, 78, 3, (0), (0), [], 754))) ((72, .invokestatic 363, 3, 1002, 2, (0), (0), [], 757)))) (cond (Nat.ble 66 pc) (cond (Nat.ble 68 pc) (cond (Nat.ble 69 pc) ((69, .getfield 257, 3, 10, 4, (1), (0), [], 369)) ((68, .aload_n 1, 1, 1, 0, (0), (0), [], 0))) ((66, .iload 6, 2, 6, 0, (0), (0), [], 0))) (cond (Nat.ble 62 pc) (cond (Nat.ble 65 pc) ((65, .iconst 0, 1, 0, 0, (0), (0), [], 0)) ((62, .invokevirtual 287, 3, 37, 3, (0), (0), [], 926))) ((61, .iconst 2, 1, 0, 0, (2), (0), [], 0))))) (cond (Nat.ble 49 pc) (cond (Nat.ble 56 pc) (cond (Nat.ble 57 pc) (cond (Nat.ble 60 pc) ((60, .aaload, 1, 0, 0, (0), (0), [], 0)) ((57, .getfield 284, 3, 11, 12, (0), (0), [], 672))) ((56, .aload_n 0, 1, 0, 0, (0), (0), [], 0))) (cond (Nat.ble 52 pc) (cond (Nat.ble 53 pc) ((53, .getfield 30, 3, 11, 3, (0), (0), [], 663)) ((52, .aload_n 0, 1, 0, 0, (0), (0), [], 0))) ((49, .getfield 59, 3, 11, 7, (0), (0), [], 667)))) (cond (Nat.ble 42 pc) (cond (Nat.ble 45 pc) (cond (Nat.ble 48 pc) ((48, .aload_n 0, 1, 0, 0, (0), (0), [], 0)) ((45, .invokevirtual 281, 3, 36, 3, (0), (0), [], 922))) ((42, .getfield 257, 3, 10, 4, (1), (0), [], 369))) (cond (Nat.ble 41 pc) ((41, .aload_n 1, 1, 1, 0, (0), (0), [], 0)) ((38, .getfield 254, 3, 10, 3, (1), (0), [], 367)))))) (cond (Nat.ble 18 pc) (cond (Nat.ble 26 pc) (cond (Nat.ble 33 pc) (cond (Nat.ble 34 pc) (cond (Nat.ble 37 pc) ((37, .aload_n 1, 1, 1, 0, (0), (0), [], 0)) ((34, .getfield 59, 3, 11, 7, (0), (0), [], 667))) ((33, .aload_n 0, 1, 0, 0, (0), (0), [], 0))) (cond (Nat.ble 29 pc) (cond (Nat.ble 30 pc) ((30, .if_icmp .ne 71, 3, 101, 0, (0), (0), [], 0)) ((29, .iconst 2, 1, 0, 0, (2), (0), [], 0))) ((26, .getfield 245, 3, 10, 0, (1), (0), [], 361)))) (cond (Nat.ble 22 pc) (cond (Nat.ble 23 pc) (cond (Nat.ble 25 pc) ((25, .aload_n 1, 1, 1, 0, (0), (0), [], 0)) ((23, .istore 6, 2, 6, 0, (0), (0), [], 0))) ((22, .l2i, 1, 0, 0, (0), (0), [], 0))) (cond (Nat.ble 19 pc) (cond (Nat.ble 21 pc) ((21, .ldiv, 1, 0, 0, (0), (0), [], 0)) ((19, .lload 4, 2, 4, 0, (0), (0), [], 0))) ((18, .lmul, 1, 0, 0, (0), (0), [], 0))))) (cond (Nat.ble 8 pc) (cond (Nat.ble 13 pc) (cond (Nat.ble 14 pc) (cond (Nat.ble 17 pc) ((17, .i2l, 1, 0, 0, (0), (0), [], 0)) ((14, .getfield 384, 3, 10, 6, (1), (0), [], 371))) ((13, .aload_n 1, 1, 1, 0, (0), (0), [], 0))) (cond (Nat.ble 11 pc) (cond (Nat.ble 12 pc) ((12, .i2l, 1, 0, 0, (0), (0), [], 0)) ((11, .iload_n 3, 1, 3, 0, (0), (0), [], 0))) ((8, .goto 15, 3, 23, 0, (0), (0), [], 0)))) (cond (Nat.ble 3 pc) (cond (Nat.ble 4 pc) (cond (Nat.ble 7 pc) ((7, .iconst 0, 1, 0, 0, (0), (0), [], 0)) ((4, .ifCond .ne 7, 3, 11, 0, (0), (0), [], 0))) ((3, .lcmp, 1, 0, 0, (0), (0), [], 0))) (cond (Nat.ble 2 pc) ((2, .lconst 0, 1, 0, 0, (0), (0), [], 0)) ((0, .lload 4, 2, 4, 0, (0), (0), [], 0)))))))
def pg_104 (pc : Nat) : RI := cond (Nat.ble 34 pc) (cond (Nat.ble 50 pc) (cond (Nat.ble 59 pc) (cond (Nat.ble 63 pc) (cond (Nat.ble 66 pc) (cond (Nat.ble 69 pc) ((69, .ireturn, 1, 0, 0, (0), (0), [], 0)) ((66, .getfield 306, 3, 9, 1, (1), (0), [], 192))) ((63, .getfield 43, 3, 11, 5, (0), (0), [], 665))) (cond (Nat.ble 62 pc) ((62, .aload_n 0, 1, 0, 0, (0), (0), [], 0)) ((59, .goto (-25), 3, 34, 0, (0), (0), [], 0)))) (cond (Nat.ble 52 pc) (cond (Nat.ble 53 pc) (cond (Nat.ble 56 pc) ((56, .iinc 4 1, 3, 4, 0, (1), (0), [], 0)) ((53, .invokevirtual 307, 3, 53, 2, (0), (0), [], 975))) ((52, .i2b, 1, 0, 0, (0), (0), [], 0))) (cond (Nat.ble 51 pc) ((51, .l2i, 1, 0, 0, (0), (0), [], 0)) ((50, .lshr, 1, 0, 0, (0), (0), [], 0))))) (cond (Nat.ble 41 pc) (cond (Nat.ble 45 pc) (cond (Nat.ble 47 pc) (cond (Nat.ble 49 pc) ((49, .imul, 1, 0, 0, (0), (0), [], 0)) ((47, .iload 4, 2, 4, 0, (0), (0), [], 0))) ((45, .bipush 8, 2, 0, 0, (8), (0), [], 0))) (cond (Nat.ble 44 pc) ((44, .lload_n 2, 1, 2, 0, (0), (0), [], 0)) ((41, .getfield 43, 3, 11, 5, (0), (0), [], 665)))) (cond (Nat.ble 37 pc) (cond (Nat.ble 40 pc) ((40, .aload_n 0, 1, 0, 0, (0), (0), [], 0)) ((37, .if_icmp .ge 25, 3, 62, 0, (0), (0), [], 0))) (cond (Nat.ble 36 pc) ((36, .iload_n 1, 1, 1, 0, (0), (0), [], 0)) ((34, .iload 4, 2, 4, 0, (0), (0), [], 0)))))) (cond (Nat.ble 17 pc) (cond (Nat.ble 25 pc) (cond (Nat.ble 30 pc) (cond (Nat.ble 31 pc) (cond (Nat.ble 32 pc) ((32, .istore 4, 2, 4, 0, (0), (0), [], 0)) ((31, .iconst 0, 1, 0, 0, (0), (0), [], 0))) ((30, .ireturn, 1, 0, 0, (0), (0), [], 0))) (cond (Nat.ble 28 pc) ((28, .bipush (-4), 2, 0, 0, (-4), (0), [], 0)) ((25, .if_icmp .le 6, 3, 31, 0, (0), (0), [], 0)))) (cond (Nat.ble 21 pc) (cond (Nat.ble 22 pc) ((22, .sipush 160, 3, 0, 0, (160), (0), [], 0)) ((21, .iadd, 1, 0, 0, (0), (0), [], 0))) (cond (Nat.ble 20 pc) ((20, .iload_n 1, 1, 1, 0, (0), (0), [], 0)) ((17, .getfield 306, 3, 9, 1, (1), (0), [], 192))))) (cond (Nat.ble 7 pc) (cond (Nat.ble 12 pc) (cond (Nat.ble 13 pc) (cond (Nat.ble 14 pc) ((14, .getfield 43, 3, 11, 5, (0), (0), [], 665)) ((13, .aload_n 0, 1, 0, 0, (0), (0), [], 0))) ((12, .ireturn, 1, 0, 0, (0), (0), [], 0))) (cond (Nat.ble 10 pc) ((10, .bipush (-2), 2, 0, 0, (-2), (0), [], 0)) ((7, .ifCond .ne 6, 3, 13, 0, (0), (0), [], 0)))) (cond (Nat.ble 2 pc) (cond (Nat.ble 4 pc) ((4, .invokestatic 86, 3, 70, 3, (0), (0), [], 707)) ((2, .bipush 8, 2, 0, 0, (8), (0), [], 0))) (cond (Nat.ble 1 pc) ((1, .iconst 1, 1, 0, 0, (1), (0), [], 0)) ((0, .iload_n 1, 1, 1, 0, (0), (0), [], 0))))))
def pg_105 (pc : Nat) : RI := cond (Nat.ble 12 pc) (cond (Nat.ble 17 pc) (cond (Nat.ble 21 pc) (cond (Nat.ble 22 pc) ((22, .ireturn, 1, 0, 0, (0), (0), [], 0)) ((21, .iload_n 2, 1, 2, 0, (0), (0), [], 0))) (cond (Nat.ble 18 pc) ((18, .putfield 284, 3, 11, 12, (0), (0), [], 672)) ((17, .iload_n 1, 1, 1, 0, (0), (0), [], 0)))) (cond (Nat.ble 15 pc) (cond (Nat.ble 16 pc) ((16, .aload_n 0, 1, 0, 0, (0), (0), [], 0)) ((15, .istore_n 2, 1, 2, 0, (0), (0), [], 0))) ((12, .getfield 284, 3, 11, 12, (0), (0), [], 672)))) (cond (Nat.ble 5 pc) (cond (Nat.ble 10 pc) (cond (Nat.ble 11 pc) ((11, .aload_n 0, 1, 0, 0, (0), (0), [], 0)) ((10, .ireturn, 1, 0, 0, (0), (0), [], 0))) (cond (Nat.ble 8 pc) ((8, .bipush (-2), 2, 0, 0, (-2), (0), [], 0)) ((5, .ifCond .ne 6, 3, 11, 0, (0), (0), [], 0)))) (cond (Nat.ble 1 pc) (cond (Nat.ble 2 pc) ((2, .invokevirtual 324, 3, 106, 2, (0), (0), [], 981)) ((1, .iload_n 1, 1, 1, 0, (0), (0), [], 0))) ((0, .aload_n 0, 1, 0, 0, (0), (0), [], 0))))
def pg_106 (pc : Nat) : RI := cond (Nat.ble 6 pc) (cond (Nat.ble 8 pc) (cond (Nat.ble 11 pc) ((11, .ireturn, 1, 1, 0, (0), (0), [], 0)) ((8, .invokestatic 86, 3, 70, 3, (0), (0), [], 707))) (cond (Nat.ble 7 pc) ((7, .isub, 1, 0, 0, (0), (0), [], 0)) ((6, .iconst 1, 1, 0, 0, (1), (0), [], 0)))) (cond (Nat.ble 2 pc) (cond (Nat.ble 3 pc) ((3, .getfield 311, 3, 11, 11, (0), (0), [], 671)) ((2, .aload_n 0, 1, 0, 0, (0), (0), [], 0))) (cond (Nat.ble 1 pc) ((1, .iconst 0, 1, 0, 0, (0), (0), [], 0)) ((0, .iload_n 1, 1, 1, 0, (0), (0), [], 0))))
def pg_107 (pc : Nat) : RI := cond (Nat.ble 68 pc) (cond (Nat.ble 99 pc) (cond (Nat.ble 117 pc) (cond (Nat.ble 123 pc) (cond (Nat.ble 127 pc) (cond (Nat.ble 128 pc) ((128, .lreturn, 1, 0, 0, (0), (0), [], 0)) ((127, .i2l, 1, 0, 0, (0), (0), [], 0))) (cond (Nat.ble 124 pc) ((124, .invokevirtual 287, 3, 37, 3, (0), (0), [], 926)) ((123, .iload_n 2, 1, 2, 0, (0), (0), [], 0)))) (cond (Nat.ble 121 pc) (cond (Nat.ble 122 pc) ((122, .aaload, 1, 0, 0, (0), (0), [], 0)) ((121, .iload_n 1, 1, 1, 0, (0), (0), [], 0))) (cond (Nat.ble 118 pc) ((118, .getfield 30, 3, 11, 3, (0), (0), [], 663)) ((117, .aload_n 0, 1, 0, 0, (0), (0), [], 0))))) (cond (Nat.ble 108 pc) (cond (Nat.ble 113 pc) (cond (Nat.ble 114 pc) ((114, .getfield 59, 3, 11, 7, (0), (0), [], 667)) ((113, .aload_n 0, 1, 0, 0, (0), (0), [], 0))) (cond (Nat.ble 110 pc) ((110, .invokevirtual 281, 3, 36, 3, (0), (0), [], 922)) ((108, .iload 7, 2, 7, 0, (0), (0), [], 0)))) (cond (Nat.ble 103 pc) (cond (Nat.ble 106 pc) ((106, .iload 6, 2, 6, 0, (0), (0), [], 0)) ((103, .getfield 59, 3, 11, 7, (0), (0), [], 667))) (cond (Nat.ble 102 pc) ((102, .aload_n 0, 1, 0, 0, (0), (0), [], 0)) ((99, .invokevirtual 278, 3, 35, 5, (0), (0), [], 918)))))) (cond (Nat.ble 83 pc) (cond (Nat.ble 90 pc) (cond (Nat.ble 93 pc) (cond (Nat.ble 96 pc) ((96, .invokestatic 275, 3, 80, 1, (0), (0), [], 917)) ((93, .getfield 191, 3, 11, 13, (0), (0), [], 673))) (cond (Nat.ble 92 pc) ((92, .aload_n 0, 1, 0, 0, (0), (0), [], 0)) ((90, .iload 5, 2, 5, 0, (0), (0), [], 0)))) (cond (Nat.ble 87 pc) (cond (Nat.ble 88 pc) ((88, .iload 4, 2, 4, 0, (0), (0), [], 0)) ((87, .iload_n 3, 1, 3, 0, (0), (0), [], 0))) (cond (Nat.ble 84 pc) ((84, .getfield 59, 3, 11, 7, (0), (0), [], 667)) ((83, .aload_n 0, 1, 0, 0, (0), (0), [], 0))))) (cond (Nat.ble 73 pc) (cond (Nat.ble 79 pc) (cond (Nat.ble 82 pc) ((82, .lreturn, 1, 0, 0, (0), (0), [], 0)) ((79, .ldc2_w 329, 3, 0, 0, (0), (-4611686018427387904), [], 991))) (cond (Nat.ble 76 pc) ((76, .ifCond .ne 7, 3, 83, 0, (0), (0), [], 0)) ((73, .invokestatic 86, 3, 70, 3, (0), (0), [], 707)))) (cond (Nat.ble 70 pc) (cond (Nat.ble 71 pc) ((71, .ldc 148, 2, 0, 0, (99999), (0), [], 781)) ((70, .iconst 0, 1, 0, 0, (0), (0), [], 0))) ((68, .iload 7, 2, 7, 0, (0), (0), [], 0)))))) (cond (Nat.ble 33 pc) (cond (Nat.ble 49 pc) (cond (Nat.ble 59 pc) (cond (Nat.ble 62 pc) (cond (Nat.ble 65 pc) ((65, .ifCond .eq 14, 3, 79, 0, (0), (0), [], 0)) ((62, .invokestatic 86, 3, 70, 3, (0), (0), [], 707))) (cond (Nat.ble 60 pc) ((60, .bipush 9, 2, 0, 0, (9), (0), [], 0)) ((59, .iconst 0, 1, 0, 0, (0), (0), [], 0)))) (cond (Nat.ble 54 pc) (cond (Nat.ble 57 pc) ((57, .iload 6, 2, 6, 0, (0), (0), [], 0)) ((54, .ifCond .eq 25, 3, 79, 0, (0), (0), [], 0))) (cond (Nat.ble 51 pc) ((51, .invokestatic 86, 3, 70, 3, (0), (0), [], 707)) ((49, .bipush 16, 2, 0, 0, (16), (0), [], 0))))) (cond (Nat.ble 40 pc) (cond (Nat.ble 46 pc) (cond (Nat.ble 48 pc) ((48, .iconst 0, 1, 0, 0, (0), (0), [], 0)) ((46, .iload 5, 2, 5, 0, (0), (0), [], 0))) (cond (Nat.ble 43 pc) ((43, .ifCond .eq 36, 3, 79, 0, (0), (0), [], 0)) ((40, .invokestatic 86, 3, 70, 3, (0), (0), [], 707)))) (cond (Nat.ble 36 pc) (cond (Nat.ble 37 pc) ((37, .sipush 9999, 3, 0, 0, (9999), (0), [], 0)) ((36, .iconst 0, 1, 0, 0, (0), (0), [], 0))) (cond (Nat.ble 34 pc) ((34, .iload 4, 2, 4, 0, (0), (0), [], 0)) ((33, .lreturn, 1, 0, 0, (0), (0), [], 0)))))) (cond (Nat.ble 11 pc) (cond (Nat.ble 21 pc) (cond (Nat.ble 27 pc) (cond (Nat.ble 30 pc) ((30, .ldc2_w 329, 3, 0, 0, (0), (-4611686018427387904), [], 991)) ((27, .ifCond .ne 7, 3, 34, 0, (0), (0), [], 0))) (cond (Nat.ble 24 pc) ((24, .invokestatic 86, 3, 70, 3, (0), (0), [], 707)) ((21, .ldc_w 328, 3, 0, 0, (100000), (0), [], 990)))) (cond (Nat.ble 17 pc) (cond (Nat.ble 18 pc) ((18, .ldc_w 327, 3, 0, 0, (-100000), (0), [], 989)) ((17, .iload_n 3, 1, 3, 0, (0), (0), [], 0))) (cond (Nat.ble 14 pc) ((14, .ifCond .eq 16, 3, 30, 0, (0), (0), [], 0)) ((11, .invokestatic 86, 3, 70, 3, (0), (0), [], 707))))) (cond (Nat.ble 5 pc) (cond (Nat.ble 9 pc) (cond (Nat.ble 10 pc) ((10, .iconst 2, 1, 0, 0, (2), (0), [], 0)) ((9, .iconst 0, 1, 0, 0, (0), (0), [], 0))) (cond (Nat.ble 8 pc) ((8, .iload_n 2, 1, 2, 0, (0), (0), [], 0)) ((5, .ifCond .eq 25, 3, 30, 0, (0), (0), [], 0)))) (cond (Nat.ble 1 pc) (cond (Nat.ble 2 pc) ((2, .invokevirtual 324, 3, 106, 2, (0), (0), [], 981)) ((1, .iload_n 1, 1, 1, 0, (0), (0), [], 0))) ((0, .aload_n 0, 1, 0, 0, (0), (0), [], 0))))))
def pg_108 (pc : Nat) : RI := cond (Nat.ble 33 pc) (cond (Nat.ble 74 pc) (cond (Nat.ble 82 pc) (cond (Nat.ble 86 pc) (cond (Nat.ble 89 pc) (cond (Nat.ble 90 pc) ((90, .lreturn, 1, 0, 0, (0), (0), [], 0)) ((89, .i2l, 1, 0, 0, (0), (0), [], 0))) ((86, .getfield 343, 3, 2, 11, (1), (0), [], 282))) (cond (Nat.ble 83 pc) ((83, .getfield 68, 3, 11, 8, (0), (0), [], 668)) ((82, .aload_n 0, 1, 0, 0, (0), (0), [], 0)))) (cond (Nat.ble 80 pc) (cond (Nat.ble 81 pc) ((81, .lreturn, 1, 0, 0, (0), (0), [], 0)) ((80, .i2l, 1, 0, 0, (0), (0), [], 0))) (cond (Nat.ble 77 pc) ((77, .getfield 340, 3, 2, 10, (1), (0), [], 280)) ((74, .getfield 68, 3, 11, 8, (0), (0), [], 668))))) (cond (Nat.ble 65 pc) (cond (Nat.ble 71 pc) (cond (Nat.ble 72 pc) (cond (Nat.ble 73 pc) ((73, .aload_n 0, 1, 0, 0, (0), (0), [], 0)) ((72, .lreturn, 1, 0, 0, (0), (0), [], 0))) ((71, .i2l, 1, 0, 0, (0), (0), [], 0))) (cond (Nat.ble 68 pc) ((68, .getfield 337, 3, 2, 9, (1), (0), [], 278)) ((65, .getfield 68, 3, 11, 8, (0), (0), [], 668)))) (cond (Nat.ble 36 pc) (cond (Nat.ble 64 pc) ((64, .aload_n 0, 1, 0, 0, (0), (0), [], 0)) ((36, .lookupswitch 46 #[(0, 28), (1, 37)], 28, 82, 0, (0), (0), [((0), 64), ((1), 73)], 0))) (cond (Nat.ble 34 pc) ((34, .iload 4, 2, 4, 0, (0), (0), [], 0)) ((33, .lreturn, 1, 0, 0, (0), (0), [], 0)))))) (cond (Nat.ble 14 pc) (cond (Nat.ble 22 pc) (cond (Nat.ble 24 pc) (cond (Nat.ble 27 pc) (cond (Nat.ble 30 pc) ((30, .ldc2_w 329, 3, 0, 0, (0), (-4611686018427387904), [], 991)) ((27, .ifCond .ne 7, 3, 34, 0, (0), (0), [], 0))) ((24, .invokevirtual 334, 3, 110, 4, (0), (0), [], 1000))) (cond (Nat.ble 23 pc) ((23, .iload_n 3, 1, 3, 0, (0), (0), [], 0)) ((22, .iload_n 2, 1, 2, 0, (0), (0), [], 0)))) (cond (Nat.ble 20 pc) (cond (Nat.ble 21 pc) ((21, .iload_n 1, 1, 1, 0, (0), (0), [], 0)) ((20, .aload_n 0, 1, 0, 0, (0), (0), [], 0))) (cond (Nat.ble 17 pc) ((17, .ifCond .eq 13, 3, 30, 0, (0), (0), [], 0)) ((14, .invokestatic 86, 3, 70, 3, (0), (0), [], 707))))) (cond (Nat.ble 4 pc) (cond (Nat.ble 10 pc) (cond (Nat.ble 12 pc) (cond (Nat.ble 13 pc) ((13, .iconst 2, 1, 0, 0, (2), (0), [], 0)) ((12, .iconst 0, 1, 0, 0, (0), (0), [], 0))) ((10, .iload 4, 2, 4, 0, (0), (0), [], 0))) (cond (Nat.ble 7 pc) ((7, .ifCond .eq 23, 3, 30, 0, (0), (0), [], 0)) ((4, .invokevirtual 331, 3, 109, 4, (0), (0), [], 996)))) (cond (Nat.ble 2 pc) (cond (Nat.ble 3 pc) ((3, .iload_n 3, 1, 3, 0, (0), (0), [], 0)) ((2, .iload_n 2, 1, 2, 0, (0), (0), [], 0))) (cond (Nat.ble 1 pc) ((1, .iload_n 1, 1, 1, 0, (0), (0), [], 0)) ((0, .aload_n 0, 1, 0, 0, (0), (0), [], 0))))))
def pg_109 (pc : Nat) : RI := cond (Nat.ble 17 pc) (cond (Nat.ble 25 pc) (cond (Nat.ble 29 pc) (cond (Nat.ble 32 pc) (cond (Nat.ble 33 pc) ((33, .ireturn, 1, 1, 0, (0), (0), [], 0)) ((32, .iconst 0, 1, 0, 0, (0), (0), [], 0))) ((29, .goto 4, 3, 33, 0, (0), (0), [], 0))) (cond (Nat.ble 28 pc) ((28, .iconst 1, 1, 0, 0, (1), (0), [], 0)) ((25, .ifCond .eq 7, 3, 32, 0, (0), (0), [], 0)))) (cond (Nat.ble 19 pc) (cond (Nat.ble 22 pc) ((22, .invokestatic 86, 3, 70, 3, (0), (0), [], 707)) ((19, .sipush 9999, 3, 0, 0, (9999), (0), [], 0))) (cond (Nat.ble 18 pc) ((18, .iconst 0, 1, 0, 0, (0), (0), [], 0)) ((17, .iload_n 3, 1, 3, 0, (0), (0), [], 0))))) (cond (Nat.ble 8 pc) (cond (Nat.ble 10 pc) (cond (Nat.ble 11 pc) (cond (Nat.ble 14 pc) ((14, .ifCond .eq 18, 3, 32, 0, (0), (0), [], 0)) ((11, .invokestatic 86, 3, 70, 3, (0), (0), [], 707))) ((10, .iconst 3, 1, 0, 0, (3), (0), [], 0))) (cond (Nat.ble 9 pc) ((9, .iconst 1, 1, 0, 0, (1), (0), [], 0)) ((8, .iload_n 2, 1, 2, 0, (0), (0), [], 0)))) (cond (Nat.ble 2 pc) (cond (Nat.ble 5 pc) ((5, .ifCond .eq 27, 3, 32, 0, (0), (0), [], 0)) ((2, .invokevirtual 161, 3, 83, 2, (0), (0), [], 786))) (cond (Nat.ble 1 pc) ((1, .iload_n 1, 1, 1, 0, (0), (0), [], 0)) ((0, .aload_n 0, 1, 0, 0, (0), (0), [], 0)))))
def pg_110 (pc : Nat) : RI := cond (Nat.ble 38 pc) (cond (Nat.ble 57 pc) (cond (Nat.ble 70 pc) (cond (Nat.ble 74 pc) (cond (Nat.ble 77 pc) (cond (Nat.ble 78 pc) ((78, .ireturn, 1, 1, 0, (0), (0), [], 0)) ((77, .iconst 0, 1, 0, 0, (0), (0), [], 0))) ((74, .goto 4, 3, 78, 0, (0), (0), [], 0))) (cond (Nat.ble 73 pc) ((73, .iconst 1, 1, 0, 0, (1), (0), [], 0)) ((70, .ifCond .le 7, 3, 77, 0, (0), (0), [], 0)))) (cond (Nat.ble 63 pc) (cond (Nat.ble 64 pc) (cond (Nat.ble 67 pc) ((67, .getfield 340, 3, 2, 10, (1), (0), [], 280)) ((64, .getfield 68, 3, 11, 8, (0), (0), [], 668))) ((63, .aload_n 0, 1, 0, 0, (0), (0), [], 0))) (cond (Nat.ble 60 pc) ((60, .invokevirtual 377, 3, 17, 1, (0), (0), [], 1035)) ((57, .getfield 68, 3, 11, 8, (0), (0), [], 668))))) (cond (Nat.ble 48 pc) (cond (Nat.ble 52 pc) (cond (Nat.ble 53 pc) (cond (Nat.ble 56 pc) ((56, .aload_n 0, 1, 0, 0, (0), (0), [], 0)) ((53, .invokevirtual 374, 3, 12, 2, (0), (0), [], 1011))) ((52, .iload_n 2, 1, 2, 0, (0), (0), [], 0))) (cond (Nat.ble 49 pc) ((49, .getfield 68, 3, 11, 8, (0), (0), [], 668)) ((48, .aload_n 0, 1, 0, 0, (0), (0), [], 0)))) (cond (Nat.ble 41 pc) (cond (Nat.ble 44 pc) (cond (Nat.ble 45 pc) ((45, .invokevirtual 370, 3, 11, 4, (0), (0), [], 1004)) ((44, .iload_n 3, 1, 3, 0, (0), (0), [], 0))) ((41, .getfield 191, 3, 11, 13, (0), (0), [], 673))) (cond (Nat.ble 40 pc) ((40, .aload_n 0, 1, 0, 0, (0), (0), [], 0)) ((38, .aload 4, 2, 4, 0, (0), (0), [], 0)))))) (cond (Nat.ble 17 pc) (cond (Nat.ble 27 pc) (cond (Nat.ble 31 pc) (cond (Nat.ble 34 pc) (cond (Nat.ble 35 pc) ((35, .getfield 68, 3, 11, 8, (0), (0), [], 668)) ((34, .aload_n 0, 1, 0, 0, (0), (0), [], 0))) ((31, .invokevirtual 214, 3, 45, 3, (0), (0), [], 818))) (cond (Nat.ble 28 pc) ((28, .getfield 191, 3, 11, 13, (0), (0), [], 673)) ((27, .aload_n 0, 1, 0, 0, (0), (0), [], 0)))) (cond (Nat.ble 19 pc) (cond (Nat.ble 22 pc) (cond (Nat.ble 24 pc) ((24, .getfield 152, 3, 0, 0, (1), (0), [], 317)) ((22, .aload 4, 2, 4, 0, (0), (0), [], 0))) ((19, .getfield 10, 3, 11, 0, (0), (0), [], 660))) (cond (Nat.ble 18 pc) ((18, .aload_n 0, 1, 0, 0, (0), (0), [], 0)) ((17, .ireturn, 1, 1, 0, (0), (0), [], 0))))) (cond (Nat.ble 6 pc) (cond (Nat.ble 10 pc) (cond (Nat.ble 13 pc) (cond (Nat.ble 16 pc) ((16, .iconst 0, 1, 0, 0, (0), (0), [], 0)) ((13, .ifCond .ne 5, 3, 18, 0, (0), (0), [], 0))) ((10, .invokevirtual 180, 3, 1, 1, (0), (0), [], 802))) (cond (Nat.ble 8 pc) ((8, .aload 4, 2, 4, 0, (0), (0), [], 0)) ((6, .astore 4, 2, 4, 0, (0), (0), [], 0)))) (cond (Nat.ble 4 pc) (cond (Nat.ble 5 pc) ((5, .aaload, 1, 0, 0, (0), (0), [], 0)) ((4, .iload_n 1, 1, 1, 0, (0), (0), [], 0))) (cond (Nat.ble 1 pc) ((1, .getfield 18, 3, 11, 1, (0), (0), [], 661)) ((0, .aload_n 0, 1, 0, 0, (0), (0), [], 0))))))
def pg_111 (pc : Nat) : RI := cond (Nat.ble 35 pc) (cond (Nat.ble 56 pc) (cond (Nat.ble 64 pc) (cond (Nat.ble 69 pc) (cond (Nat.ble 70 pc) (cond (Nat.ble 71 pc) ((71, .ireturn, 1, 0, 0, (0), (0), [], 0)) ((70, .iadd, 1, 0, 0, (0), (0), [], 0))) ((69, .iaload, 1, 0, 0, (0), (0), [], 0))) (cond (Nat.ble 67 pc) ((67, .iload 4, 2, 4, 0, (0), (0), [], 0)) ((64, .getfield 345, 3, 2, 3, (1), (0), [], 271)))) (cond (Nat.ble 59 pc) (cond (Nat.ble 60 pc) (cond (Nat.ble 61 pc) ((61, .getfield 68, 3, 11, 8, (0), (0), [], 668)) ((60, .aload_n 0, 1, 0, 0, (0), (0), [], 0))) ((59, .imul, 1, 0, 0, (0), (0), [], 0))) (cond (Nat.ble 58 pc) ((58, .iaload, 1, 0, 0, (0), (0), [], 0)) ((56, .iload 4, 2, 4, 0, (0), (0), [], 0))))) (cond (Nat.ble 46 pc) (cond (Nat.ble 49 pc) (cond (Nat.ble 50 pc) (cond (Nat.ble 53 pc) ((53, .getfield 344, 3, 2, 2, (1), (0), [], 269)) ((50, .getfield 68, 3, 11, 8, (0), (0), [], 668))) ((49, .aload_n 0, 1, 0, 0, (0), (0), [], 0))) (cond (Nat.ble 47 pc) ((47, .bipush 10, 2, 0, 0, (10), (0), [], 0)) ((46, .ireturn, 1, 0, 0, (0), (0), [], 0)))) (cond (Nat.ble 39 pc) (cond (Nat.ble 42 pc) (cond (Nat.ble 45 pc) ((45, .iconst (-1), 1, 0, 0, (-1), (0), [], 0)) ((42, .if_icmp .lt 5, 3, 47, 0, (0), (0), [], 0))) ((39, .getfield 340, 3, 2, 10, (1), (0), [], 280))) (cond (Nat.ble 36 pc) ((36, .getfield 68, 3, 11, 8, (0), (0), [], 668)) ((35, .aload_n 0, 1, 0, 0, (0), (0), [], 0)))))) (cond (Nat.ble 16 pc) (cond (Nat.ble 25 pc) (cond (Nat.ble 27 pc) (cond (Nat.ble 30 pc) (cond (Nat.ble 33 pc) ((33, .iload 4, 2, 4, 0, (0), (0), [], 0)) ((30, .ifCond .eq 15, 3, 45, 0, (0), (0), [], 0))) ((27, .invokevirtual 334, 3, 110, 4, (0), (0), [], 1000))) (cond (Nat.ble 26 pc) ((26, .iload_n 3, 1, 3, 0, (0), (0), [], 0)) ((25, .iload_n 2, 1, 2, 0, (0), (0), [], 0)))) (cond (Nat.ble 20 pc) (cond (Nat.ble 23 pc) (cond (Nat.ble 24 pc) ((24, .iload_n 1, 1, 1, 0, (0), (0), [], 0)) ((23, .aload_n 0, 1, 0, 0, (0), (0), [], 0))) ((20, .ifCond .eq 25, 3, 45, 0, (0), (0), [], 0))) (cond (Nat.ble 17 pc) ((17, .invokestatic 86, 3, 70, 3, (0), (0), [], 707)) ((16, .iconst 2, 1, 0, 0, (2), (0), [], 0))))) (cond (Nat.ble 7 pc) (cond (Nat.ble 12 pc) (cond (Nat.ble 13 pc) (cond (Nat.ble 15 pc) ((15, .iconst 0, 1, 0, 0, (0), (0), [], 0)) ((13, .iload 4, 2, 4, 0, (0), (0), [], 0))) ((12, .ireturn, 1, 0, 0, (0), (0), [], 0))) (cond (Nat.ble 10 pc) ((10, .bipush (-2), 2, 0, 0, (-2), (0), [], 0)) ((7, .ifCond .ne 6, 3, 13, 0, (0), (0), [], 0)))) (cond (Nat.ble 2 pc) (cond (Nat.ble 3 pc) (cond (Nat.ble 4 pc) ((4, .invokevirtual 331, 3, 109, 4, (0), (0), [], 996)) ((3, .iload_n 3, 1, 3, 0, (0), (0), [], 0))) ((2, .iload_n 2, 1, 2, 0, (0), (0), [], 0))) (cond (Nat.ble 1 pc) ((1, .iload_n 1, 1, 1, 0, (0), (0), [], 0)) ((0, .aload_n 0, 1, 0, 0, (0), (0), [], 0))))))
def pg_112 (pc : Nat) : RI := cond (Nat.ble 76 pc) (cond (Nat.ble 92 pc) (cond (Nat.ble 98 pc) (cond (Nat.ble 102 pc) (cond (Nat.ble 103 pc) (cond (Nat.ble 105 pc) ((105, .ireturn, 1, 0, 0, (0), (0), [], 0)) ((103, .bipush (-2), 2, 0, 0, (-2), (0), [], 0))) ((102, .ireturn, 1, 0, 0, (0), (0), [], 0))) (cond (Nat.ble 99 pc) ((99, .invokevirtual 351, 3, 114, 1, (0), (0), [], 1055)) ((98, .aload_n 0, 1, 0, 0, (0), (0), [], 0)))) (cond (Nat.ble 94 pc) (cond (Nat.ble 97 pc) ((97, .ireturn, 1, 0, 0, (0), (0), [], 0)) ((94, .invokevirtual 348, 3, 113, 1, (0), (0), [], 1051))) (cond (Nat.ble 93 pc) ((93, .aload_n 0, 1, 0, 0, (0), (0), [], 0)) ((92, .ireturn, 1, 0, 0, (0), (0), [], 0))))) (cond (Nat.ble 84 pc) (cond (Nat.ble 88 pc) (cond (Nat.ble 89 pc) ((89, .getfield 284, 3, 11, 12, (0), (0), [], 672)) ((88, .aload_n 0, 1, 0, 0, (0), (0), [], 0))) (cond (Nat.ble 87 pc) ((87, .ireturn, 1, 0, 0, (0), (0), [], 0)) ((84, .getfield 191, 3, 11, 13, (0), (0), [], 673)))) (cond (Nat.ble 82 pc) (cond (Nat.ble 83 pc) ((83, .aload_n 0, 1, 0, 0, (0), (0), [], 0)) ((82, .ireturn, 1, 0, 0, (0), (0), [], 0))) (cond (Nat.ble 79 pc) ((79, .getfield 306, 3, 9, 1, (1), (0), [], 192)) ((76, .getfield 43, 3, 11, 5, (0), (0), [], 665)))))) (cond (Nat.ble 64 pc) (cond (Nat.ble 70 pc) (cond (Nat.ble 74 pc) (cond (Nat.ble 75 pc) ((75, .aload_n 0, 1, 0, 0, (0), (0), [], 0)) ((74, .ireturn, 1, 0, 0, (0), (0), [], 0))) (cond (Nat.ble 71 pc) ((71, .getfield 311, 3, 11, 11, (0), (0), [], 671)) ((70, .aload_n 0, 1, 0, 0, (0), (0), [], 0)))) (cond (Nat.ble 66 pc) (cond (Nat.ble 69 pc) ((69, .ireturn, 1, 0, 0, (0), (0), [], 0)) ((66, .getfield 207, 3, 11, 10, (0), (0), [], 670))) (cond (Nat.ble 65 pc) ((65, .aload_n 0, 1, 0, 0, (0), (0), [], 0)) ((64, .ireturn, 1, 0, 0, (0), (0), [], 0))))) (cond (Nat.ble 56 pc) (cond (Nat.ble 60 pc) (cond (Nat.ble 61 pc) ((61, .getfield 149, 3, 11, 9, (0), (0), [], 669)) ((60, .aload_n 0, 1, 0, 0, (0), (0), [], 0))) (cond (Nat.ble 59 pc) ((59, .ireturn, 1, 0, 0, (0), (0), [], 0)) ((56, .getfield 90, 3, 6, 2, (1), (0), [], 167)))) (cond (Nat.ble 52 pc) (cond (Nat.ble 53 pc) ((53, .getfield 10, 3, 11, 0, (0), (0), [], 660)) ((52, .aload_n 0, 1, 0, 0, (0), (0), [], 0))) (cond (Nat.ble 1 pc) ((1, .tableswitch 102 0 8 #[51, 59, 64, 69, 74, 82, 87, 92, 97], 51, 103, 0, (0), (0), [((0), 52), ((1), 60), ((2), 65), ((3), 70), ((4), 75), ((5), 83), ((6), 88), ((7), 93), ((8), 98)], 0)) ((0, .iload_n 1, 1, 1, 0, (0), (0), [], 0))))))
def pg_113 (pc : Nat) : RI := cond (Nat.ble 13 pc) (cond (Nat.ble 24 pc) (cond (Nat.ble 30 pc) (cond (Nat.ble 33 pc) (cond (Nat.ble 34 pc) ((34, .ireturn, 1, 0, 0, (0), (0), [], 0)) ((33, .iload_n 1, 1, 1, 0, (0), (0), [], 0))) ((30, .goto (-26), 3, 4, 0, (0), (0), [], 0))) (cond (Nat.ble 27 pc) ((27, .iinc 2 1, 3, 2, 0, (1), (0), [], 0)) ((24, .iinc 1 1, 3, 1, 0, (1), (0), [], 0)))) (cond (Nat.ble 17 pc) (cond (Nat.ble 18 pc) (cond (Nat.ble 21 pc) ((21, .ifCond .eq 6, 3, 27, 0, (0), (0), [], 0)) ((18, .getfield 173, 3, 0, 2, (1), (0), [(0, 0)], 321))) ((17, .aaload, 1, 0, 0, (0), (0), [], 0))) (cond (Nat.ble 16 pc) ((16, .iload_n 2, 1, 2, 0, (0), (0), [], 0)) ((13, .getfield 18, 3, 11, 1, (0), (0), [], 661))))) (cond (Nat.ble 4 pc) (cond (Nat.ble 6 pc) (cond (Nat.ble 9 pc) (cond (Nat.ble 12 pc) ((12, .aload_n 0, 1, 0, 0, (0), (0), [], 0)) ((9, .if_icmp .ge 24, 3, 33, 0, (0), (0), [], 0))) ((6, .getfield 149, 3, 11, 9, (0), (0), [], 669))) (cond (Nat.ble 5 pc) ((5, .aload_n 0, 1, 0, 0, (0), (0), [], 0)) ((4, .iload_n 2, 1, 2, 0, (0), (0), [], 0)))) (cond (Nat.ble 2 pc) (cond (Nat.ble 3 pc) ((3, .istore_n 2, 1, 2, 0, (0), (0), [], 0)) ((2, .iconst 0, 1, 0, 0, (0), (0), [], 0))) (cond (Nat.ble 1 pc) ((1, .istore_n 1, 1, 1, 0, (0), (0), [], 0)) ((0, .iconst 0, 1, 0, 0, (0), (0), [], 0)))))
def pg_114 (pc : Nat) : RI := cond (Nat.ble 13 pc) (cond (Nat.ble 24 pc) (cond (Nat.ble 30 pc) (cond (Nat.ble 33 pc) (cond (Nat.ble 34 pc) ((34, .ireturn, 1, 0, 0, (0), (0), [], 0)) ((33, .iload_n 1, 1, 1, 0, (0), (0), [], 0))) ((30, .goto (-26), 3, 4, 0, (0), (0), [], 0))) (cond (Nat.ble 27 pc) ((27, .iinc 2 1, 3, 2, 0, (1), (0), [], 0)) ((24, .iinc 1 1, 3, 1, 0, (1), (0), [], 0)))) (cond (Nat.ble 17 pc) (cond (Nat.ble 18 pc) (cond (Nat.ble 21 pc) ((21, .ifCond .ne 6, 3, 27, 0, (0), (0), [], 0)) ((18, .getfield 260, 3, 10, 7, (1), (0), [(0, 0)], 373))) ((17, .aaload, 1, 0, 0, (0), (0), [], 0))) (cond (Nat.ble 16 pc) ((16, .iload_n 2, 1, 2, 0, (0), (0), [], 0)) ((13, .getfield 24, 3, 11, 2, (0), (0), [], 662))))) (cond (Nat.ble 4 pc) (cond (Nat.ble 6 pc) (cond (Nat.ble 9 pc) (cond (Nat.ble 12 pc) ((12, .aload_n 0, 1, 0, 0, (0), (0), [], 0)) ((9, .if_icmp .ge 24, 3, 33, 0, (0), (0), [], 0))) ((6, .getfield 207, 3, 11, 10, (0), (0), [], 670))) (cond (Nat.ble 5 pc) ((5, .aload_n 0, 1, 0, 0, (0), (0), [], 0)) ((4, .iload_n 2, 1, 2, 0, (0), (0), [], 0)))) (cond (Nat.ble 2 pc) (cond (Nat.ble 3 pc) ((3, .istore_n 2, 1, 2, 0, (0), (0), [], 0)) ((2, .iconst 0, 1, 0, 0, (0), (0), [], 0))) (cond (Nat.ble 1 pc) ((1, .istore_n 1, 1, 1, 0, (0), (0), [], 0)) ((0, .iconst 0, 1, 0, 0, (0), (0), [], 0)))))
def pg_115 (pc : Nat) : RI := cond (Nat.ble 32 pc) (cond (Nat.ble 48 pc) (cond (Nat.ble 55 pc) (cond (Nat.ble 59 pc) (cond (Nat.ble 62 pc) (cond (Nat.ble 63 pc) ((63, .ireturn, 1, 0, 0, (0), (0), [], 0)) ((62, .iconst 1, 1, 0, 0, (1), (0), [], 0))) ((59, .invokevirtual 354, 3, 48, 3, (0), (0), [], 1063))) (cond (Nat.ble 58 pc) ((58, .iload_n 3, 1, 3, 0, (0), (0), [], 0)) ((55, .goto 4, 3, 59, 0, (0), (0), [], 0)))) (cond (Nat.ble 50 pc) (cond (Nat.ble 51 pc) (cond (Nat.ble 54 pc) ((54, .iconst 0, 1, 0, 0, (0), (0), [], 0)) ((51, .if_icmp .ne 7, 3, 58, 0, (0), (0), [], 0))) ((50, .iconst (-1), 1, 0, 0, (-1), (0), [], 0))) (cond (Nat.ble 49 pc) ((49, .iload_n 2, 1, 2, 0, (0), (0), [], 0)) ((48, .iload_n 2, 1, 2, 0, (0), (0), [], 0))))) (cond (Nat.ble 41 pc) (cond (Nat.ble 43 pc) (cond (Nat.ble 46 pc) (cond (Nat.ble 47 pc) ((47, .aaload, 1, 0, 0, (0), (0), [], 0)) ((46, .iload_n 1, 1, 1, 0, (0), (0), [], 0))) ((43, .getfield 36, 3, 11, 4, (0), (0), [], 664))) (cond (Nat.ble 42 pc) ((42, .aload_n 0, 1, 0, 0, (0), (0), [], 0)) ((41, .ireturn, 1, 0, 0, (0), (0), [], 0)))) (cond (Nat.ble 36 pc) (cond (Nat.ble 39 pc) ((39, .bipush (-14), 2, 0, 0, (-14), (0), [], 0)) ((36, .ifCond .ge 6, 3, 42, 0, (0), (0), [], 0))) (cond (Nat.ble 35 pc) ((35, .iload_n 3, 1, 3, 0, (0), (0), [], 0)) ((32, .if_icmp .eq 10, 3, 42, 0, (0), (0), [], 0)))))) (cond (Nat.ble 17 pc) (cond (Nat.ble 24 pc) (cond (Nat.ble 29 pc) (cond (Nat.ble 30 pc) (cond (Nat.ble 31 pc) ((31, .iconst (-1), 1, 0, 0, (-1), (0), [], 0)) ((30, .iload_n 2, 1, 2, 0, (0), (0), [], 0))) ((29, .ireturn, 1, 0, 0, (0), (0), [], 0))) (cond (Nat.ble 27 pc) ((27, .bipush (-2), 2, 0, 0, (-2), (0), [], 0)) ((24, .if_icmp .le 6, 3, 30, 0, (0), (0), [], 0)))) (cond (Nat.ble 21 pc) (cond (Nat.ble 22 pc) ((22, .bipush 40, 2, 0, 0, (40), (0), [], 0)) ((21, .iload_n 3, 1, 3, 0, (0), (0), [], 0))) (cond (Nat.ble 18 pc) ((18, .if_icmp .eq 12, 3, 30, 0, (0), (0), [], 0)) ((17, .iconst (-1), 1, 0, 0, (-1), (0), [], 0))))) (cond (Nat.ble 8 pc) (cond (Nat.ble 10 pc) (cond (Nat.ble 13 pc) (cond (Nat.ble 16 pc) ((16, .iload_n 2, 1, 2, 0, (0), (0), [], 0)) ((13, .ifCond .eq 14, 3, 27, 0, (0), (0), [], 0))) ((10, .invokestatic 86, 3, 70, 3, (0), (0), [], 707))) (cond (Nat.ble 9 pc) ((9, .iconst 2, 1, 0, 0, (2), (0), [], 0)) ((8, .iconst (-1), 1, 0, 0, (-1), (0), [], 0)))) (cond (Nat.ble 4 pc) (cond (Nat.ble 7 pc) ((7, .iload_n 2, 1, 2, 0, (0), (0), [], 0)) ((4, .ifCond .eq 23, 3, 27, 0, (0), (0), [], 0))) (cond (Nat.ble 1 pc) ((1, .invokestatic 125, 3, 77, 1, (0), (0), [], 742)) ((0, .iload_n 1, 1, 1, 0, (0), (0), [], 0))))))
def pg_116 (pc : Nat) : RI := cond (Nat.ble 26 pc) (cond (Nat.ble 40 pc) (cond (Nat.ble 44 pc) (cond (Nat.ble 48 pc) (cond (Nat.ble 49 pc) ((49, .ireturn, 1, 0, 0, (0), (0), [], 0)) ((48, .iconst 1, 1, 0, 0, (1), (0), [], 0))) (cond (Nat.ble 45 pc) ((45, .invokevirtual 357, 3, 49, 3, (0), (0), [], 1072)) ((44, .iload_n 3, 1, 3, 0, (0), (0), [], 0)))) (cond (Nat.ble 41 pc) (cond (Nat.ble 43 pc) ((43, .iload_n 2, 1, 2, 0, (0), (0), [], 0)) ((41, .aload 4, 2, 4, 0, (0), (0), [], 0))) ((40, .ireturn, 1, 0, 0, (0), (0), [], 0)))) (cond (Nat.ble 31 pc) (cond (Nat.ble 35 pc) (cond (Nat.ble 38 pc) ((38, .bipush (-12), 2, 0, 0, (-12), (0), [], 0)) ((35, .ifCond .ne 6, 3, 41, 0, (0), (0), [], 0))) (cond (Nat.ble 32 pc) ((32, .invokevirtual 135, 3, 47, 2, (0), (0), [], 749)) ((31, .iload_n 2, 1, 2, 0, (0), (0), [], 0)))) (cond (Nat.ble 28 pc) (cond (Nat.ble 29 pc) ((29, .aload 4, 2, 4, 0, (0), (0), [], 0)) ((28, .ireturn, 1, 0, 0, (0), (0), [], 0))) ((26, .bipush (-11), 2, 0, 0, (-11), (0), [], 0))))) (cond (Nat.ble 11 pc) (cond (Nat.ble 16 pc) (cond (Nat.ble 20 pc) (cond (Nat.ble 23 pc) ((23, .ifCond .eq 6, 3, 29, 0, (0), (0), [], 0)) ((20, .invokevirtual 128, 3, 46, 1, (0), (0), [], 745))) (cond (Nat.ble 18 pc) ((18, .aload 4, 2, 4, 0, (0), (0), [], 0)) ((16, .astore 4, 2, 4, 0, (0), (0), [], 0)))) (cond (Nat.ble 14 pc) (cond (Nat.ble 15 pc) ((15, .aaload, 1, 0, 0, (0), (0), [], 0)) ((14, .iload_n 1, 1, 1, 0, (0), (0), [], 0))) ((11, .getfield 36, 3, 11, 4, (0), (0), [], 664)))) (cond (Nat.ble 7 pc) (cond (Nat.ble 9 pc) (cond (Nat.ble 10 pc) ((10, .aload_n 0, 1, 0, 0, (0), (0), [], 0)) ((9, .ireturn, 1, 0, 0, (0), (0), [], 0))) ((7, .bipush (-2), 2, 0, 0, (-2), (0), [], 0))) (cond (Nat.ble 1 pc) (cond (Nat.ble 4 pc) ((4, .ifCond .ne 6, 3, 10, 0, (0), (0), [], 0)) ((1, .invokestatic 125, 3, 77, 1, (0), (0), [], 742))) ((0, .iload_n 1, 1, 1, 0, (0), (0), [], 0)))))
def pg_117 (pc : Nat) : RI := cond (Nat.ble 24 pc) (cond (Nat.ble 37 pc) (cond (Nat.ble 42 pc) (cond (Nat.ble 48 pc) (cond (Nat.ble 50 pc) ((50, .ireturn, 1, 0, 0, (0), (0), [], 0)) ((48, .bipush (-13), 2, 0, 0, (-13), (0), [], 0))) (cond (Nat.ble 45 pc) ((45, .goto 5, 3, 50, 0, (0), (0), [], 0)) ((42, .getfield 251, 3, 10, 2, (1), (0), [], 365)))) (cond (Nat.ble 40 pc) (cond (Nat.ble 41 pc) ((41, .aaload, 1, 0, 0, (0), (0), [], 0)) ((40, .iload_n 1, 1, 1, 0, (0), (0), [], 0))) ((37, .getfield 24, 3, 11, 2, (0), (0), [], 662)))) (cond (Nat.ble 29 pc) (cond (Nat.ble 33 pc) (cond (Nat.ble 36 pc) ((36, .aload_n 0, 1, 0, 0, (0), (0), [], 0)) ((33, .ifCond .eq 15, 3, 48, 0, (0), (0), [], 0))) (cond (Nat.ble 30 pc) ((30, .invokevirtual 360, 3, 68, 2, (0), (0), [], 1080)) ((29, .iload_n 2, 1, 2, 0, (0), (0), [], 0)))) (cond (Nat.ble 27 pc) (cond (Nat.ble 28 pc) ((28, .aaload, 1, 0, 0, (0), (0), [], 0)) ((27, .iload_n 1, 1, 1, 0, (0), (0), [], 0))) ((24, .getfield 24, 3, 11, 2, (0), (0), [], 662))))) (cond (Nat.ble 12 pc) (cond (Nat.ble 17 pc) (cond (Nat.ble 22 pc) (cond (Nat.ble 23 pc) ((23, .aload_n 0, 1, 0, 0, (0), (0), [], 0)) ((22, .ireturn, 1, 0, 0, (0), (0), [], 0))) (cond (Nat.ble 20 pc) ((20, .bipush (-11), 2, 0, 0, (-11), (0), [], 0)) ((17, .ifCond .ne 6, 3, 23, 0, (0), (0), [], 0)))) (cond (Nat.ble 13 pc) (cond (Nat.ble 14 pc) ((14, .invokevirtual 242, 3, 95, 2, (0), (0), [], 893)) ((13, .iload_n 1, 1, 1, 0, (0), (0), [], 0))) ((12, .aload_n 0, 1, 0, 0, (0), (0), [], 0)))) (cond (Nat.ble 3 pc) (cond (Nat.ble 9 pc) (cond (Nat.ble 11 pc) ((11, .ireturn, 1, 0, 0, (0), (0), [], 0)) ((9, .bipush (-2), 2, 0, 0, (-2), (0), [], 0))) (cond (Nat.ble 6 pc) ((6, .ifCond .ne 6, 3, 12, 0, (0), (0), [], 0)) ((3, .invokestatic 86, 3, 70, 3, (0), (0), [], 707)))) (cond (Nat.ble 1 pc) (cond (Nat.ble 2 pc) ((2, .iconst 5, 1, 0, 0, (5), (0), [], 0)) ((1, .iconst 0, 1, 0, 0, (0), (0), [], 0))) ((0, .iload_n 2, 1, 2, 0, (0), (0), [], 0)))))
def pg_118 (pc : Nat) : RI := cond (Nat.ble 57 pc) (cond (Nat.ble 78 pc) (cond (Nat.ble 92 pc) (cond (Nat.ble 98 pc) (cond (Nat.ble 102 pc) (cond (Nat.ble 103 pc) ((103, .ireturn, 1, 0, 0, (0), (0), [], 0)) ((102, .isub, 1, 0, 0, (0), (0), [], 0))) (cond (Nat.ble 101 pc) ((101, .iconst 1, 1, 0, 0, (1), (0), [], 0)) ((98, .getfield 1, 3, 12, 1, (0), (0), [], 1265)))) (cond (Nat.ble 94 pc) (cond (Nat.ble 97 pc) ((97, .aload_n 0, 1, 0, 0, (0), (0), [], 0)) ((94, .putfield 1, 3, 12, 1, (0), (0), [], 1265))) (cond (Nat.ble 93 pc) ((93, .iadd, 1, 0, 0, (0), (0), [], 0)) ((92, .iconst 1, 1, 0, 0, (1), (0), [], 0))))) (cond (Nat.ble 84 pc) (cond (Nat.ble 88 pc) (cond (Nat.ble 89 pc) ((89, .getfield 1, 3, 12, 1, (0), (0), [], 1265)) ((88, .dup, 1, 0, 0, (0), (0), [], 0))) (cond (Nat.ble 87 pc) ((87, .aload_n 0, 1, 0, 0, (0), (0), [], 0)) ((84, .goto (-23), 3, 61, 0, (0), (0), [], 0)))) (cond (Nat.ble 80 pc) (cond (Nat.ble 81 pc) ((81, .iinc 3 1, 3, 3, 0, (1), (0), [], 0)) ((80, .iastore, 1, 0, 0, (0), (0), [], 0))) ((78, .bipush 10, 2, 0, 0, (10), (0), [], 0))))) (cond (Nat.ble 66 pc) (cond (Nat.ble 72 pc) (cond (Nat.ble 76 pc) (cond (Nat.ble 77 pc) ((77, .iadd, 1, 0, 0, (0), (0), [], 0)) ((76, .iload_n 3, 1, 3, 0, (0), (0), [], 0))) (cond (Nat.ble 75 pc) ((75, .imul, 1, 0, 0, (0), (0), [], 0)) ((72, .getfield 1, 3, 12, 1, (0), (0), [], 1265)))) (cond (Nat.ble 70 pc) (cond (Nat.ble 71 pc) ((71, .aload_n 0, 1, 0, 0, (0), (0), [], 0)) ((70, .iconst 4, 1, 0, 0, (4), (0), [], 0))) (cond (Nat.ble 67 pc) ((67, .getfield 16, 3, 12, 4, (0), (0), [], 1268)) ((66, .aload_n 0, 1, 0, 0, (0), (0), [], 0))))) (cond (Nat.ble 60 pc) (cond (Nat.ble 62 pc) (cond (Nat.ble 63 pc) ((63, .if_icmp .ge 24, 3, 87, 0, (0), (0), [], 0)) ((62, .iconst 4, 1, 0, 0, (4), (0), [], 0))) (cond (Nat.ble 61 pc) ((61, .iload_n 3, 1, 3, 0, (0), (0), [], 0)) ((60, .istore_n 3, 1, 3, 0, (0), (0), [], 0)))) (cond (Nat.ble 58 pc) (cond (Nat.ble 59 pc) ((59, .iconst 0, 1, 0, 0, (0), (0), [], 0)) ((58, .iastore, 1, 0, 0, (0), (0), [], 0))) ((57, .iload_n 2, 1, 2, 0, (0), (0), [], 0)))))) (cond (Nat.ble 28 pc) (cond (Nat.ble 43 pc) (cond (Nat.ble 49 pc) (cond (Nat.ble 53 pc) (cond (Nat.ble 54 pc) ((54, .getfield 1, 3, 12, 1, (0), (0), [], 1265)) ((53, .aload_n 0, 1, 0, 0, (0), (0), [], 0))) (cond (Nat.ble 50 pc) ((50, .getfield 31, 3, 12, 3, (0), (0), [], 1267)) ((49, .aload_n 0, 1, 0, 0, (0), (0), [], 0)))) (cond (Nat.ble 47 pc) (cond (Nat.ble 48 pc) ((48, .iastore, 1, 0, 0, (0), (0), [], 0)) ((47, .iload_n 1, 1, 1, 0, (0), (0), [], 0))) (cond (Nat.ble 44 pc) ((44, .getfield 1, 3, 12, 1, (0), (0), [], 1265)) ((43, .aload_n 0, 1, 0, 0, (0), (0), [], 0))))) (cond (Nat.ble 36 pc) (cond (Nat.ble 39 pc) (cond (Nat.ble 40 pc) ((40, .getfield 28, 3, 12, 2, (0), (0), [], 1266)) ((39, .aload_n 0, 1, 0, 0, (0), (0), [], 0))) (cond (Nat.ble 38 pc) ((38, .ireturn, 1, 0, 0, (0), (0), [], 0)) ((36, .bipush (-4), 2, 0, 0, (-4), (0), [], 0)))) (cond (Nat.ble 31 pc) (cond (Nat.ble 33 pc) ((33, .if_icmp .ne 6, 3, 39, 0, (0), (0), [], 0)) ((31, .bipush 6, 2, 0, 0, (6), (0), [], 0))) ((28, .getfield 1, 3, 12, 1, (0), (0), [], 1265))))) (cond (Nat.ble 13 pc) (cond (Nat.ble 21 pc) (cond (Nat.ble 26 pc) (cond (Nat.ble 27 pc) ((27, .aload_n 0, 1, 0, 0, (0), (0), [], 0)) ((26, .ireturn, 1, 0, 0, (0), (0), [], 0))) (cond (Nat.ble 24 pc) ((24, .bipush (-2), 2, 0, 0, (-2), (0), [], 0)) ((21, .ifCond .ne 6, 3, 27, 0, (0), (0), [], 0)))) (cond (Nat.ble 15 pc) (cond (Nat.ble 18 pc) ((18, .invokestatic 12, 3, 119, 3, (0), (0), [], 1091)) ((15, .ldc2_w 26, 3, 0, 0, (0), (99), [], 1090))) (cond (Nat.ble 14 pc) ((14, .lconst 0, 1, 0, 0, (0), (0), [], 0)) ((13, .i2l, 1, 0, 0, (0), (0), [], 0))))) (cond (Nat.ble 3 pc) (cond (Nat.ble 9 pc) (cond (Nat.ble 12 pc) ((12, .iload_n 2, 1, 2, 0, (0), (0), [], 0)) ((9, .ifCond .eq 15, 3, 24, 0, (0), (0), [], 0))) (cond (Nat.ble 6 pc) ((6, .invokestatic 12, 3, 119, 3, (0), (0), [], 1091)) ((3, .ldc2_w 26, 3, 0, 0, (0), (99), [], 1090)))) (cond (Nat.ble 1 pc) (cond (Nat.ble 2 pc) ((2, .lconst 0, 1, 0, 0, (0), (0), [], 0)) ((1, .i2l, 1, 0, 0, (0), (0), [], 0))) ((0, .iload_n 1, 1, 1, 0, (0), (0), [], 0))))))
def pg_119 (pc : Nat) : RI := cond (Nat.ble 9 pc) (cond (Nat.ble 14 pc) (cond (Nat.ble 17 pc) (cond (Nat.ble 18 pc) ((18, .ireturn, 1, 1, 0, (0), (0), [], 0)) ((17, .iconst 0, 1, 0, 0, (0), (0), [], 0))) ((14, .goto 4, 3, 18, 0, (0), (0), [], 0))) (cond (Nat.ble 10 pc) (cond (Nat.ble 13 pc) ((13, .iconst 1, 1, 0, 0, (1), (0), [], 0)) ((10, .ifCond .gt 7, 3, 17, 0, (0), (0), [], 0))) ((9, .lcmp, 1, 0, 0, (0), (0), [], 0)))) (cond (Nat.ble 3 pc) (cond (Nat.ble 6 pc) (cond (Nat.ble 7 pc) ((7, .lload 4, 2, 4, 0, (0), (0), [], 0)) ((6, .lload_n 0, 1, 0, 0, (0), (0), [], 0))) ((3, .ifCond .lt 14, 3, 17, 0, (0), (0), [], 0))) (cond (Nat.ble 1 pc) (cond (Nat.ble 2 pc) ((2, .lcmp, 1, 0, 0, (0), (0), [], 0)) ((1, .lload_n 2, 1, 2, 0, (0), (0), [], 0))) ((0, .lload_n 0, 1, 0, 0, (0), (0), [], 0))))
def pg_120 (pc : Nat) : RI := cond (Nat.ble 44 pc) (cond (Nat.ble 59 pc) (cond (Nat.ble 65 pc) (cond (Nat.ble 68 pc) (cond (Nat.ble 69 pc) (cond (Nat.ble 72 pc) ((72, .ireturn, 1, 0, 0, (0), (0), [], 0)) ((69, .invokevirtual 43, 3, 123, 3, (0), (0), [], 1108))) ((68, .iload_n 2, 1, 2, 0, (0), (0), [], 0))) (cond (Nat.ble 66 pc) (cond (Nat.ble 67 pc) ((67, .iload_n 1, 1, 1, 0, (0), (0), [], 0)) ((66, .aload_n 0, 1, 0, 0, (0), (0), [], 0))) ((65, .iastore, 1, 0, 0, (0), (0), [], 0)))) (cond (Nat.ble 61 pc) (cond (Nat.ble 62 pc) (cond (Nat.ble 63 pc) ((63, .iload 4, 2, 4, 0, (0), (0), [], 0)) ((62, .iadd, 1, 0, 0, (0), (0), [], 0))) ((61, .iload_n 2, 1, 2, 0, (0), (0), [], 0))) (cond (Nat.ble 60 pc) ((60, .imul, 1, 0, 0, (0), (0), [], 0)) ((59, .iload_n 1, 1, 1, 0, (0), (0), [], 0))))) (cond (Nat.ble 51 pc) (cond (Nat.ble 54 pc) (cond (Nat.ble 55 pc) (cond (Nat.ble 58 pc) ((58, .iconst 4, 1, 0, 0, (4), (0), [], 0)) ((55, .getfield 20, 3, 12, 5, (0), (0), [], 1269))) ((54, .aload_n 0, 1, 0, 0, (0), (0), [], 0))) (cond (Nat.ble 52 pc) (cond (Nat.ble 53 pc) ((53, .iastore, 1, 0, 0, (0), (0), [], 0)) ((52, .iload_n 3, 1, 3, 0, (0), (0), [], 0))) ((51, .iadd, 1, 0, 0, (0), (0), [], 0)))) (cond (Nat.ble 48 pc) (cond (Nat.ble 49 pc) (cond (Nat.ble 50 pc) ((50, .iload_n 2, 1, 2, 0, (0), (0), [], 0)) ((49, .imul, 1, 0, 0, (0), (0), [], 0))) ((48, .iload_n 1, 1, 1, 0, (0), (0), [], 0))) (cond (Nat.ble 47 pc) ((47, .iconst 4, 1, 0, 0, (4), (0), [], 0)) ((44, .getfield 16, 3, 12, 4, (0), (0), [], 1268)))))) (cond (Nat.ble 21 pc) (cond (Nat.ble 31 pc) (cond (Nat.ble 40 pc) (cond (Nat.ble 42 pc) (cond (Nat.ble 43 pc) ((43, .aload_n 0, 1, 0, 0, (0), (0), [], 0)) ((42, .ireturn, 1, 0, 0, (0), (0), [], 0))) ((40, .bipush (-2), 2, 0, 0, (-2), (0), [], 0))) (cond (Nat.ble 34 pc) (cond (Nat.ble 37 pc) ((37, .ifCond .ne 6, 3, 43, 0, (0), (0), [], 0)) ((34, .invokestatic 12, 3, 119, 3, (0), (0), [], 1091))) ((31, .ldc2_w 41, 3, 0, 0, (0), (9), [], 1107)))) (cond (Nat.ble 27 pc) (cond (Nat.ble 29 pc) (cond (Nat.ble 30 pc) ((30, .lconst 0, 1, 0, 0, (0), (0), [], 0)) ((29, .i2l, 1, 0, 0, (0), (0), [], 0))) ((27, .iload 4, 2, 4, 0, (0), (0), [], 0))) (cond (Nat.ble 24 pc) ((24, .ifCond .eq 16, 3, 40, 0, (0), (0), [], 0)) ((21, .invokestatic 12, 3, 119, 3, (0), (0), [], 1091))))) (cond (Nat.ble 9 pc) (cond (Nat.ble 16 pc) (cond (Nat.ble 17 pc) (cond (Nat.ble 18 pc) ((18, .ldc2_w 26, 3, 0, 0, (0), (99), [], 1090)) ((17, .lconst 1, 1, 0, 0, (0), (1), [], 0))) ((16, .i2l, 1, 0, 0, (0), (0), [], 0))) (cond (Nat.ble 12 pc) (cond (Nat.ble 15 pc) ((15, .iload_n 3, 1, 3, 0, (0), (0), [], 0)) ((12, .ifCond .eq 28, 3, 40, 0, (0), (0), [], 0))) ((9, .invokestatic 38, 3, 122, 1, (0), (0), [], 1103)))) (cond (Nat.ble 2 pc) (cond (Nat.ble 5 pc) (cond (Nat.ble 8 pc) ((8, .iload_n 2, 1, 2, 0, (0), (0), [], 0)) ((5, .ifCond .eq 35, 3, 40, 0, (0), (0), [], 0))) ((2, .invokevirtual 34, 3, 121, 2, (0), (0), [], 1098))) (cond (Nat.ble 1 pc) ((1, .iload_n 1, 1, 1, 0, (0), (0), [], 0)) ((0, .aload_n 0, 1, 0, 0, (0), (0), [], 0))))))
def pg_121 (pc : Nat) : RI := cond (Nat.ble 9 pc) (cond (Nat.ble 13 pc) (cond (Nat.ble 16 pc) (cond (Nat.ble 17 pc) ((17, .ireturn, 1, 1, 0, (0), (0), [], 0)) ((16, .iconst 0, 1, 0, 0, (0), (0), [], 0))) ((13, .goto 4, 3, 17, 0, (0), (0), [], 0))) (cond (Nat.ble 12 pc) ((12, .iconst 1, 1, 0, 0, (1), (0), [], 0)) ((9, .if_icmp .ge 7, 3, 16, 0, (0), (0), [], 0)))) (cond (Nat.ble 4 pc) (cond (Nat.ble 5 pc) (cond (Nat.ble 6 pc) ((6, .getfield 1, 3, 12, 1, (0), (0), [], 1265)) ((5, .aload_n 0, 1, 0, 0, (0), (0), [], 0))) ((4, .iload_n 1, 1, 1, 0, (0), (0), [], 0))) (cond (Nat.ble 1 pc) ((1, .ifCond .lt 15, 3, 16, 0, (0), (0), [], 0)) ((0, .iload_n 1, 1, 1, 0, (0), (0), [], 0))))
def pg_122 (pc : Nat) : RI := cond (Nat.ble 3 pc) (cond (Nat.ble 6 pc) (cond (Nat.ble 9 pc) ((9, .ireturn, 1, 1, 0, (0), (0), [], 0)) ((6, .invokestatic 12, 3, 119, 3, (0), (0), [], 1091))) ((3, .ldc2_w 10, 3, 0, 0, (0), (3), [], 1106))) (cond (Nat.ble 1 pc) (cond (Nat.ble 2 pc) ((2, .lconst 0, 1, 0, 0, (0), (0), [], 0)) ((1, .i2l, 1, 0, 0, (0), (0), [], 0))) ((0, .iload_n 0, 1, 0, 0, (0), (0), [], 0)))
def pg_123 (pc : Nat) : RI := cond (Nat.ble 24 pc) (cond (Nat.ble 34 pc) (cond (Nat.ble 38 pc) (cond (Nat.ble 42 pc) (cond (Nat.ble 45 pc) (cond (Nat.ble 46 pc) ((46, .ireturn, 1, 0, 0, (0), (0), [], 0)) ((45, .iload_n 3, 1, 3, 0, (0), (0), [], 0))) ((42, .goto 4, 3, 46, 0, (0), (0), [], 0))) (cond (Nat.ble 41 pc) ((41, .iconst 1, 1, 0, 0, (1), (0), [], 0)) ((38, .if_icmp .ge 7, 3, 45, 0, (0), (0), [], 0)))) (cond (Nat.ble 36 pc) (cond (Nat.ble 37 pc) ((37, .iconst 1, 1, 0, 0, (1), (0), [], 0)) ((36, .iload_n 3, 1, 3, 0, (0), (0), [], 0))) (cond (Nat.ble 35 pc) ((35, .istore_n 3, 1, 3, 0, (0), (0), [], 0)) ((34, .isub, 1, 0, 0, (0), (0), [], 0))))) (cond (Nat.ble 28 pc) (cond (Nat.ble 30 pc) (cond (Nat.ble 31 pc) (cond (Nat.ble 33 pc) ((33, .idiv, 1, 0, 0, (0), (0), [], 0)) ((31, .bipush 10, 2, 0, 0, (10), (0), [], 0))) ((30, .imul, 1, 0, 0, (0), (0), [], 0))) (cond (Nat.ble 29 pc) ((29, .iaload, 1, 0, 0, (0), (0), [], 0)) ((28, .iadd, 1, 0, 0, (0), (0), [], 0)))) (cond (Nat.ble 26 pc) (cond (Nat.ble 27 pc) ((27, .iload_n 2, 1, 2, 0, (0), (0), [], 0)) ((26, .imul, 1, 0, 0, (0), (0), [], 0))) (cond (Nat.ble 25 pc) ((25, .iload_n 1, 1, 1, 0, (0), (0), [], 0)) ((24, .iconst 4, 1, 0, 0, (4), (0), [], 0)))))) (cond (Nat.ble 11 pc) (cond (Nat.ble 17 pc) (cond (Nat.ble 19 pc) (cond (Nat.ble 20 pc) (cond (Nat.ble 21 pc) ((21, .getfield 23, 3, 12, 6, (0), (0), [], 1270)) ((20, .aload_n 0, 1, 0, 0, (0), (0), [], 0))) ((19, .iaload, 1, 0, 0, (0), (0), [], 0))) (cond (Nat.ble 18 pc) ((18, .iadd, 1, 0, 0, (0), (0), [], 0)) ((17, .iload_n 2, 1, 2, 0, (0), (0), [], 0)))) (cond (Nat.ble 15 pc) (cond (Nat.ble 16 pc) ((16, .imul, 1, 0, 0, (0), (0), [], 0)) ((15, .iload_n 1, 1, 1, 0, (0), (0), [], 0))) (cond (Nat.ble 14 pc) ((14, .iconst 4, 1, 0, 0, (4), (0), [], 0)) ((11, .getfield 20, 3, 12, 5, (0), (0), [], 1269))))) (cond (Nat.ble 6 pc) (cond (Nat.ble 8 pc) (cond (Nat.ble 9 pc) (cond (Nat.ble 10 pc) ((10, .aload_n 0, 1, 0, 0, (0), (0), [], 0)) ((9, .iaload, 1, 0, 0, (0), (0), [], 0))) ((8, .iadd, 1, 0, 0, (0), (0), [], 0))) (cond (Nat.ble 7 pc) ((7, .iload_n 2, 1, 2, 0, (0), (0), [], 0)) ((6, .imul, 1, 0, 0, (0), (0), [], 0)))) (cond (Nat.ble 4 pc) (cond (Nat.ble 5 pc) ((5, .iload_n 1, 1, 1, 0, (0), (0), [], 0)) ((4, .iconst 4, 1, 0, 0, (4), (0), [], 0))) (cond (Nat.ble 1 pc) ((1, .getfield 16, 3, 12, 4, (0), (0), [], 1268)) ((0, .aload_n 0, 1, 0, 0, (0), (0), [], 0))))))
def pg_124 (pc : Nat) : RI := cond (Nat.ble 15 pc) (cond (Nat.ble 18 pc) (cond (Nat.ble 24 pc) (cond (Nat.ble 26 pc) ((26, .ireturn, 1, 0, 0, (0), (0), [], 0)) ((24, .bipush (-2), 2, 0, 0, (-2), (0), [], 0))) (cond (Nat.ble 21 pc) ((21, .goto 5, 3, 26, 0, (0), (0), [], 0)) ((18, .invokevirtual 43, 3, 123, 3, (0), (0), [], 1108)))) (cond (Nat.ble 16 pc) (cond (Nat.ble 17 pc) ((17, .iload_n 2, 1, 2, 0, (0), (0), [], 0)) ((16, .iload_n 1, 1, 1, 0, (0), (0), [], 0))) ((15, .aload_n 0, 1, 0, 0, (0), (0), [], 0)))) (cond (Nat.ble 5 pc) (cond (Nat.ble 9 pc) (cond (Nat.ble 12 pc) ((12, .ifCond .eq 12, 3, 24, 0, (0), (0), [], 0)) ((9, .invokestatic 38, 3, 122, 1, (0), (0), [], 1103))) (cond (Nat.ble 8 pc) ((8, .iload_n 2, 1, 2, 0, (0), (0), [], 0)) ((5, .ifCond .eq 19, 3, 24, 0, (0), (0), [], 0)))) (cond (Nat.ble 1 pc) (cond (Nat.ble 2 pc) ((2, .invokevirtual 34, 3, 121, 2, (0), (0), [], 1098)) ((1, .iload_n 1, 1, 1, 0, (0), (0), [], 0))) ((0, .aload_n 0, 1, 0, 0, (0), (0), [], 0))))
def pg_125 (pc : Nat) : RI := cond (Nat.ble 20 pc) (cond (Nat.ble 30 pc) (cond (Nat.ble 35 pc) (cond (Nat.ble 36 pc) (cond (Nat.ble 37 pc) ((37, .ireturn, 1, 0, 0, (0), (0), [], 0)) ((36, .iconst 1, 1, 0, 0, (1), (0), [], 0))) ((35, .iastore, 1, 0, 0, (0), (0), [], 0))) (cond (Nat.ble 33 pc) (cond (Nat.ble 34 pc) ((34, .iload_n 2, 1, 2, 0, (0), (0), [], 0)) ((33, .iload_n 1, 1, 1, 0, (0), (0), [], 0))) ((30, .getfield 53, 3, 12, 7, (0), (0), [], 1271)))) (cond (Nat.ble 26 pc) (cond (Nat.ble 28 pc) (cond (Nat.ble 29 pc) ((29, .aload_n 0, 1, 0, 0, (0), (0), [], 0)) ((28, .ireturn, 1, 0, 0, (0), (0), [], 0))) ((26, .bipush (-2), 2, 0, 0, (-2), (0), [], 0))) (cond (Nat.ble 23 pc) ((23, .ifCond .ne 6, 3, 29, 0, (0), (0), [], 0)) ((20, .invokestatic 12, 3, 119, 3, (0), (0), [], 1091))))) (cond (Nat.ble 9 pc) (cond (Nat.ble 13 pc) (cond (Nat.ble 14 pc) (cond (Nat.ble 17 pc) ((17, .ldc2_w 51, 3, 0, 0, (0), (2), [], 1122)) ((14, .ldc2_w 49, 3, 0, 0, (0), (-2), [], 1121))) ((13, .i2l, 1, 0, 0, (0), (0), [], 0))) (cond (Nat.ble 12 pc) ((12, .iload_n 2, 1, 2, 0, (0), (0), [], 0)) ((9, .ifCond .eq 17, 3, 26, 0, (0), (0), [], 0)))) (cond (Nat.ble 2 pc) (cond (Nat.ble 3 pc) (cond (Nat.ble 6 pc) ((6, .invokestatic 12, 3, 119, 3, (0), (0), [], 1091)) ((3, .ldc2_w 47, 3, 0, 0, (0), (11), [], 1120))) ((2, .lconst 0, 1, 0, 0, (0), (0), [], 0))) (cond (Nat.ble 1 pc) ((1, .i2l, 1, 0, 0, (0), (0), [], 0)) ((0, .iload_n 1, 1, 1, 0, (0), (0), [], 0)))))
def pg_126 (pc : Nat) : RI := cond (Nat.ble 80 pc) (cond (Nat.ble 116 pc) (cond (Nat.ble 136 pc) (cond (Nat.ble 149 pc) (cond (Nat.ble 155 pc) (cond (Nat.ble 158 pc) (cond (Nat.ble 160 pc) ((160, .ireturn, 1, 0, 0, (0), (0), [], 0)) ((158, .iload 4, 2, 4, 0, (0), (0), [], 0))) ((155, .goto (-87), 3, 68, 0, (0), (0), [], 0))) (cond (Nat.ble 151 pc) (cond (Nat.ble 152 pc) ((152, .iinc 5 1, 3, 5, 0, (1), (0), [], 0)) ((151, .iastore, 1, 0, 0, (0), (0), [], 0))) ((149, .iload 8, 2, 8, 0, (0), (0), [], 0)))) (cond (Nat.ble 142 pc) (cond (Nat.ble 145 pc) (cond (Nat.ble 146 pc) ((146, .goto 5, 3, 151, 0, (0), (0), [], 0)) ((145, .iconst 2, 1, 0, 0, (2), (0), [], 0))) ((142, .if_icmp .le 7, 3, 149, 0, (0), (0), [], 0))) (cond (Nat.ble 139 pc) (cond (Nat.ble 141 pc) ((141, .iconst 2, 1, 0, 0, (2), (0), [], 0)) ((139, .iload 8, 2, 8, 0, (0), (0), [], 0))) ((136, .goto 15, 3, 151, 0, (0), (0), [], 0))))) (cond (Nat.ble 122 pc) (cond (Nat.ble 129 pc) (cond (Nat.ble 131 pc) (cond (Nat.ble 134 pc) ((134, .bipush (-2), 2, 0, 0, (-2), (0), [], 0)) ((131, .if_icmp .ge 8, 3, 139, 0, (0), (0), [], 0))) ((129, .bipush (-2), 2, 0, 0, (-2), (0), [], 0))) (cond (Nat.ble 125 pc) (cond (Nat.ble 127 pc) ((127, .iload 8, 2, 8, 0, (0), (0), [], 0)) ((125, .iload 5, 2, 5, 0, (0), (0), [], 0))) ((122, .getfield 53, 3, 12, 7, (0), (0), [], 1271)))) (cond (Nat.ble 118 pc) (cond (Nat.ble 119 pc) (cond (Nat.ble 121 pc) ((121, .aload_n 0, 1, 0, 0, (0), (0), [], 0)) ((119, .istore 8, 2, 8, 0, (0), (0), [], 0))) ((118, .iaload, 1, 0, 0, (0), (0), [], 0))) (cond (Nat.ble 117 pc) ((117, .iadd, 1, 0, 0, (0), (0), [], 0)) ((116, .l2i, 1, 0, 0, (0), (0), [], 0)))))) (cond (Nat.ble 98 pc) (cond (Nat.ble 106 pc) (cond (Nat.ble 112 pc) (cond (Nat.ble 113 pc) (cond (Nat.ble 114 pc) ((114, .lload 6, 2, 6, 0, (0), (0), [], 0)) ((113, .imul, 1, 0, 0, (0), (0), [], 0))) ((112, .iload_n 1, 1, 1, 0, (0), (0), [], 0))) (cond (Nat.ble 107 pc) (cond (Nat.ble 110 pc) ((110, .bipush 40, 2, 0, 0, (40), (0), [], 0)) ((107, .getfield 64, 3, 12, 58, (0), (0), [], 1322))) ((106, .aload_n 0, 1, 0, 0, (0), (0), [], 0)))) (cond (Nat.ble 100 pc) (cond (Nat.ble 103 pc) (cond (Nat.ble 105 pc) ((105, .ireturn, 1, 0, 0, (0), (0), [], 0)) ((103, .bipush (-12), 2, 0, 0, (-12), (0), [], 0))) ((100, .ifCond .lt 6, 3, 106, 0, (0), (0), [], 0))) (cond (Nat.ble 99 pc) ((99, .lcmp, 1, 0, 0, (0), (0), [], 0)) ((98, .i2l, 1, 0, 0, (0), (0), [], 0))))) (cond (Nat.ble 87 pc) (cond (Nat.ble 93 pc) (cond (Nat.ble 96 pc) (cond (Nat.ble 97 pc) ((97, .iaload, 1, 0, 0, (0), (0), [], 0)) ((96, .iload_n 1, 1, 1, 0, (0), (0), [], 0))) ((93, .getfield 61, 3, 12, 57, (0), (0), [], 1321))) (cond (Nat.ble 90 pc) (cond (Nat.ble 92 pc) ((92, .aload_n 0, 1, 0, 0, (0), (0), [], 0)) ((90, .lload 6, 2, 6, 0, (0), (0), [], 0))) ((87, .ifCond .lt 16, 3, 103, 0, (0), (0), [], 0)))) (cond (Nat.ble 83 pc) (cond (Nat.ble 85 pc) (cond (Nat.ble 86 pc) ((86, .lcmp, 1, 0, 0, (0), (0), [], 0)) ((85, .lconst 0, 1, 0, 0, (0), (0), [], 0))) ((83, .lload 6, 2, 6, 0, (0), (0), [], 0))) (cond (Nat.ble 81 pc) ((81, .lstore 6, 2, 6, 0, (0), (0), [], 0)) ((80, .ladd, 1, 0, 0, (0), (0), [], 0))))))) (cond (Nat.ble 44 pc) (cond (Nat.ble 62 pc) (cond (Nat.ble 70 pc) (cond (Nat.ble 76 pc) (cond (Nat.ble 77 pc) (cond (Nat.ble 79 pc) ((79, .i2l, 1, 0, 0, (0), (0), [], 0)) ((77, .iload 5, 2, 5, 0, (0), (0), [], 0))) ((76, .i2l, 1, 0, 0, (0), (0), [], 0))) (cond (Nat.ble 72 pc) (cond (Nat.ble 75 pc) ((75, .iload_n 3, 1, 3, 0, (0), (0), [], 0)) ((72, .if_icmp .ge 86, 3, 158, 0, (0), (0), [], 0))) ((70, .iload 4, 2, 4, 0, (0), (0), [], 0)))) (cond (Nat.ble 65 pc) (cond (Nat.ble 66 pc) (cond (Nat.ble 68 pc) ((68, .iload 5, 2, 5, 0, (0), (0), [], 0)) ((66, .istore 5, 2, 5, 0, (0), (0), [], 0))) ((65, .iconst 0, 1, 0, 0, (0), (0), [], 0))) (cond (Nat.ble 64 pc) ((64, .ireturn, 1, 0, 0, (0), (0), [], 0)) ((62, .bipush (-13), 2, 0, 0, (-13), (0), [], 0))))) (cond (Nat.ble 52 pc) (cond (Nat.ble 57 pc) (cond (Nat.ble 58 pc) (cond (Nat.ble 59 pc) ((59, .if_icmp .eq 6, 3, 65, 0, (0), (0), [], 0)) ((58, .iload_n 2, 1, 2, 0, (0), (0), [], 0))) ((57, .iaload, 1, 0, 0, (0), (0), [], 0))) (cond (Nat.ble 53 pc) (cond (Nat.ble 56 pc) ((56, .iload_n 1, 1, 1, 0, (0), (0), [], 0)) ((53, .getfield 58, 3, 12, 56, (0), (0), [], 1320))) ((52, .aload_n 0, 1, 0, 0, (0), (0), [], 0)))) (cond (Nat.ble 46 pc) (cond (Nat.ble 49 pc) (cond (Nat.ble 51 pc) ((51, .ireturn, 1, 0, 0, (0), (0), [], 0)) ((49, .bipush (-11), 2, 0, 0, (-11), (0), [], 0))) ((46, .ifCond .ge 6, 3, 52, 0, (0), (0), [], 0))) (cond (Nat.ble 45 pc) ((45, .iaload, 1, 0, 0, (0), (0), [], 0)) ((44, .iload_n 1, 1, 1, 0, (0), (0), [], 0)))))) (cond (Nat.ble 21 pc) (cond (Nat.ble 31 pc) (cond (Nat.ble 39 pc) (cond (Nat.ble 40 pc) (cond (Nat.ble 41 pc) ((41, .getfield 58, 3, 12, 56, (0), (0), [], 1320)) ((40, .aload_n 0, 1, 0, 0, (0), (0), [], 0))) ((39, .ireturn, 1, 0, 0, (0), (0), [], 0))) (cond (Nat.ble 34 pc) (cond (Nat.ble 37 pc) ((37, .bipush (-2), 2, 0, 0, (-2), (0), [], 0)) ((34, .ifCond .ne 6, 3, 40, 0, (0), (0), [], 0))) ((31, .invokestatic 12, 3, 119, 3, (0), (0), [], 1091)))) (cond (Nat.ble 26 pc) (cond (Nat.ble 27 pc) (cond (Nat.ble 28 pc) ((28, .ldc2_w 56, 3, 0, 0, (0), (12), [], 1127)) ((27, .lconst 0, 1, 0, 0, (0), (0), [], 0))) ((26, .i2l, 1, 0, 0, (0), (0), [], 0))) (cond (Nat.ble 24 pc) ((24, .iload 4, 2, 4, 0, (0), (0), [], 0)) ((21, .ifCond .eq 16, 3, 37, 0, (0), (0), [], 0))))) (cond (Nat.ble 9 pc) (cond (Nat.ble 14 pc) (cond (Nat.ble 15 pc) (cond (Nat.ble 18 pc) ((18, .invokestatic 12, 3, 119, 3, (0), (0), [], 1091)) ((15, .ldc2_w 51, 3, 0, 0, (0), (2), [], 1122))) ((14, .lconst 0, 1, 0, 0, (0), (0), [], 0))) (cond (Nat.ble 12 pc) (cond (Nat.ble 13 pc) ((13, .i2l, 1, 0, 0, (0), (0), [], 0)) ((12, .iload_n 2, 1, 2, 0, (0), (0), [], 0))) ((9, .ifCond .eq 28, 3, 37, 0, (0), (0), [], 0)))) (cond (Nat.ble 2 pc) (cond (Nat.ble 3 pc) (cond (Nat.ble 6 pc) ((6, .invokestatic 12, 3, 119, 3, (0), (0), [], 1091)) ((3, .ldc2_w 10, 3, 0, 0, (0), (3), [], 1106))) ((2, .lconst 0, 1, 0, 0, (0), (0), [], 0))) (cond (Nat.ble 1 pc) ((1, .i2l, 1, 0, 0, (0), (0), [], 0)) ((0, .iload_n 1, 1, 1, 0, (0), (0), [], 0)))))))
def pg_127 (pc : Nat) : RI := cond (Nat.ble 22 pc) (cond (Nat.ble 35 pc) (cond (Nat.ble 40 pc) (cond (Nat.ble 42 pc) (cond (Nat.ble 45 pc) ((45, .ireturn, 1, 0, 0, (0), (0), [], 0)) ((42, .invokevirtual 69, 3, 128, 4, (0), (0), [], 1133))) (cond (Nat.ble 41 pc) ((41, .iload_n 3, 1, 3, 0, (0), (0), [], 0)) ((40, .iload_n 2, 1, 2, 0, (0), (0), [], 0)))) (cond (Nat.ble 38 pc) (cond (Nat.ble 39 pc) ((39, .iload_n 1, 1, 1, 0, (0), (0), [], 0)) ((38, .aload_n 0, 1, 0, 0, (0), (0), [], 0))) ((35, .goto 10, 3, 45, 0, (0), (0), [], 0)))) (cond (Nat.ble 27 pc) (cond (Nat.ble 30 pc) (cond (Nat.ble 33 pc) ((33, .bipush (-2), 2, 0, 0, (-2), (0), [], 0)) ((30, .ifCond .ne 8, 3, 38, 0, (0), (0), [], 0))) ((27, .invokestatic 12, 3, 119, 3, (0), (0), [], 1091))) (cond (Nat.ble 23 pc) (cond (Nat.ble 24 pc) ((24, .ldc2_w 67, 3, 0, 0, (0), (9999), [], 1132)) ((23, .lconst 0, 1, 0, 0, (0), (0), [], 0))) ((22, .i2l, 1, 0, 0, (0), (0), [], 0))))) (cond (Nat.ble 10 pc) (cond (Nat.ble 17 pc) (cond (Nat.ble 18 pc) (cond (Nat.ble 21 pc) ((21, .iload_n 3, 1, 3, 0, (0), (0), [], 0)) ((18, .if_icmp .eq 15, 3, 33, 0, (0), (0), [], 0))) ((17, .iload_n 2, 1, 2, 0, (0), (0), [], 0))) (cond (Nat.ble 13 pc) (cond (Nat.ble 16 pc) ((16, .iload_n 1, 1, 1, 0, (0), (0), [], 0)) ((13, .ifCond .eq 20, 3, 33, 0, (0), (0), [], 0))) ((10, .invokevirtual 34, 3, 121, 2, (0), (0), [], 1098)))) (cond (Nat.ble 5 pc) (cond (Nat.ble 8 pc) (cond (Nat.ble 9 pc) ((9, .iload_n 2, 1, 2, 0, (0), (0), [], 0)) ((8, .aload_n 0, 1, 0, 0, (0), (0), [], 0))) ((5, .ifCond .eq 28, 3, 33, 0, (0), (0), [], 0))) (cond (Nat.ble 1 pc) (cond (Nat.ble 2 pc) ((2, .invokevirtual 34, 3, 121, 2, (0), (0), [], 1098)) ((1, .iload_n 1, 1, 1, 0, (0), (0), [], 0))) ((0, .aload_n 0, 1, 0, 0, (0), (0), [], 0)))))
def pg_128 (pc : Nat) : RI := cond (Nat.ble 66 pc) (cond (Nat.ble 100 pc) (cond (Nat.ble 114 pc) (cond (Nat.ble 122 pc) (cond (Nat.ble 126 pc) (cond (Nat.ble 129 pc) (cond (Nat.ble 131 pc) ((131, .ireturn, 1, 0, 0, (0), (0), [], 0)) ((129, .iload 9, 2, 9, 0, (0), (0), [], 0))) ((126, .goto 5, 3, 131, 0, (0), (0), [], 0))) (cond (Nat.ble 125 pc) ((125, .iconst 1, 1, 0, 0, (1), (0), [], 0)) ((122, .if_icmp .ge 7, 3, 129, 0, (0), (0), [], 0)))) (cond (Nat.ble 117 pc) (cond (Nat.ble 119 pc) (cond (Nat.ble 121 pc) ((121, .iconst 1, 1, 0, 0, (1), (0), [], 0)) ((119, .iload 9, 2, 9, 0, (0), (0), [], 0))) ((117, .istore 9, 2, 9, 0, (0), (0), [], 0))) (cond (Nat.ble 116 pc) ((116, .idiv, 1, 0, 0, (0), (0), [], 0)) ((114, .iload 8, 2, 8, 0, (0), (0), [], 0))))) (cond (Nat.ble 107 pc) (cond (Nat.ble 111 pc) (cond (Nat.ble 112 pc) (cond (Nat.ble 113 pc) ((113, .isub, 1, 0, 0, (0), (0), [], 0)) ((112, .iconst 1, 1, 0, 0, (1), (0), [], 0))) ((111, .iadd, 1, 0, 0, (0), (0), [], 0))) (cond (Nat.ble 109 pc) ((109, .iload 8, 2, 8, 0, (0), (0), [], 0)) ((107, .iload 6, 2, 6, 0, (0), (0), [], 0)))) (cond (Nat.ble 105 pc) (cond (Nat.ble 106 pc) ((106, .ireturn, 1, 0, 0, (0), (0), [], 0)) ((105, .iconst (-1), 1, 0, 0, (-1), (0), [], 0))) (cond (Nat.ble 102 pc) ((102, .ifCond .ne 5, 3, 107, 0, (0), (0), [], 0)) ((100, .iload 8, 2, 8, 0, (0), (0), [], 0)))))) (cond (Nat.ble 81 pc) (cond (Nat.ble 91 pc) (cond (Nat.ble 94 pc) (cond (Nat.ble 97 pc) (cond (Nat.ble 98 pc) ((98, .istore 8, 2, 8, 0, (0), (0), [], 0)) ((97, .iconst 2, 1, 0, 0, (2), (0), [], 0))) ((94, .goto 4, 3, 98, 0, (0), (0), [], 0))) (cond (Nat.ble 93 pc) ((93, .isub, 1, 0, 0, (0), (0), [], 0)) ((91, .iload 7, 2, 7, 0, (0), (0), [], 0)))) (cond (Nat.ble 85 pc) (cond (Nat.ble 87 pc) (cond (Nat.ble 90 pc) ((90, .iconst 2, 1, 0, 0, (2), (0), [], 0)) ((87, .ifCond .ge 10, 3, 97, 0, (0), (0), [], 0))) ((85, .iload 4, 2, 4, 0, (0), (0), [], 0))) (cond (Nat.ble 82 pc) ((82, .goto 16, 3, 98, 0, (0), (0), [], 0)) ((81, .iadd, 1, 0, 0, (0), (0), [], 0))))) (cond (Nat.ble 71 pc) (cond (Nat.ble 75 pc) (cond (Nat.ble 78 pc) (cond (Nat.ble 79 pc) ((79, .iload 7, 2, 7, 0, (0), (0), [], 0)) ((78, .iconst 2, 1, 0, 0, (2), (0), [], 0))) ((75, .ifCond .le 10, 3, 85, 0, (0), (0), [], 0))) (cond (Nat.ble 73 pc) ((73, .iload 4, 2, 4, 0, (0), (0), [], 0)) ((71, .istore 7, 2, 7, 0, (0), (0), [], 0)))) (cond (Nat.ble 69 pc) (cond (Nat.ble 70 pc) ((70, .iaload, 1, 0, 0, (0), (0), [], 0)) ((69, .irem, 1, 0, 0, (0), (0), [], 0))) (cond (Nat.ble 67 pc) ((67, .bipush 12, 2, 0, 0, (12), (0), [], 0)) ((66, .idiv, 1, 0, 0, (0), (0), [], 0))))))) (cond (Nat.ble 28 pc) (cond (Nat.ble 48 pc) (cond (Nat.ble 57 pc) (cond (Nat.ble 60 pc) (cond (Nat.ble 63 pc) (cond (Nat.ble 64 pc) ((64, .bipush 30, 2, 0, 0, (30), (0), [], 0)) ((63, .iload_n 3, 1, 3, 0, (0), (0), [], 0))) ((60, .getfield 53, 3, 12, 7, (0), (0), [], 1271))) (cond (Nat.ble 59 pc) ((59, .aload_n 0, 1, 0, 0, (0), (0), [], 0)) ((57, .istore 6, 2, 6, 0, (0), (0), [], 0)))) (cond (Nat.ble 51 pc) (cond (Nat.ble 54 pc) (cond (Nat.ble 56 pc) ((56, .iadd, 1, 0, 0, (0), (0), [], 0)) ((54, .iload 5, 2, 5, 0, (0), (0), [], 0))) ((51, .goto 5, 3, 56, 0, (0), (0), [], 0))) (cond (Nat.ble 50 pc) ((50, .ineg, 1, 0, 0, (0), (0), [], 0)) ((48, .iload 5, 2, 5, 0, (0), (0), [], 0))))) (cond (Nat.ble 37 pc) (cond (Nat.ble 41 pc) (cond (Nat.ble 43 pc) (cond (Nat.ble 45 pc) ((45, .ifCond .ge 9, 3, 54, 0, (0), (0), [], 0)) ((43, .iload 5, 2, 5, 0, (0), (0), [], 0))) ((41, .iload 4, 2, 4, 0, (0), (0), [], 0))) (cond (Nat.ble 38 pc) ((38, .goto 5, 3, 43, 0, (0), (0), [], 0)) ((37, .ineg, 1, 0, 0, (0), (0), [], 0)))) (cond (Nat.ble 32 pc) (cond (Nat.ble 35 pc) ((35, .iload 4, 2, 4, 0, (0), (0), [], 0)) ((32, .ifCond .ge 9, 3, 41, 0, (0), (0), [], 0))) (cond (Nat.ble 30 pc) ((30, .iload 4, 2, 4, 0, (0), (0), [], 0)) ((28, .istore 5, 2, 5, 0, (0), (0), [], 0)))))) (cond (Nat.ble 13 pc) (cond (Nat.ble 21 pc) (cond (Nat.ble 25 pc) (cond (Nat.ble 26 pc) (cond (Nat.ble 27 pc) ((27, .isub, 1, 0, 0, (0), (0), [], 0)) ((26, .iaload, 1, 0, 0, (0), (0), [], 0))) ((25, .iload_n 1, 1, 1, 0, (0), (0), [], 0))) (cond (Nat.ble 22 pc) ((22, .getfield 31, 3, 12, 3, (0), (0), [], 1267)) ((21, .aload_n 0, 1, 0, 0, (0), (0), [], 0)))) (cond (Nat.ble 16 pc) (cond (Nat.ble 19 pc) (cond (Nat.ble 20 pc) ((20, .iaload, 1, 0, 0, (0), (0), [], 0)) ((19, .iload_n 2, 1, 2, 0, (0), (0), [], 0))) ((16, .getfield 31, 3, 12, 3, (0), (0), [], 1267))) (cond (Nat.ble 15 pc) ((15, .aload_n 0, 1, 0, 0, (0), (0), [], 0)) ((13, .istore 4, 2, 4, 0, (0), (0), [], 0))))) (cond (Nat.ble 6 pc) (cond (Nat.ble 10 pc) (cond (Nat.ble 11 pc) (cond (Nat.ble 12 pc) ((12, .isub, 1, 0, 0, (0), (0), [], 0)) ((11, .iaload, 1, 0, 0, (0), (0), [], 0))) ((10, .iload_n 1, 1, 1, 0, (0), (0), [], 0))) (cond (Nat.ble 7 pc) ((7, .getfield 28, 3, 12, 2, (0), (0), [], 1266)) ((6, .aload_n 0, 1, 0, 0, (0), (0), [], 0)))) (cond (Nat.ble 4 pc) (cond (Nat.ble 5 pc) ((5, .iaload, 1, 0, 0, (0), (0), [], 0)) ((4, .iload_n 2, 1, 2, 0, (0), (0), [], 0))) (cond (Nat.ble 1 pc) ((1, .getfield 28, 3, 12, 2, (0), (0), [], 1266)) ((0, .aload_n 0, 1, 0, 0, (0), (0), [], 0)))))))
def pg_129 (pc : Nat) : RI := cond (Nat.ble 60 pc) (cond (Nat.ble 86 pc) (cond (Nat.ble 98 pc) (cond (Nat.ble 106 pc) (cond (Nat.ble 110 pc) (cond (Nat.ble 111 pc) (cond (Nat.ble 112 pc) ((112, .ireturn, 1, 0, 0, (0), (0), [], 0)) ((111, .isub, 1, 0, 0, (0), (0), [], 0))) ((110, .iconst 1, 1, 0, 0, (1), (0), [], 0))) (cond (Nat.ble 107 pc) ((107, .getfield 7, 3, 12, 8, (0), (0), [], 1272)) ((106, .aload_n 0, 1, 0, 0, (0), (0), [], 0)))) (cond (Nat.ble 102 pc) (cond (Nat.ble 103 pc) ((103, .putfield 7, 3, 12, 8, (0), (0), [], 1272)) ((102, .iadd, 1, 0, 0, (0), (0), [], 0))) (cond (Nat.ble 101 pc) ((101, .iconst 1, 1, 0, 0, (1), (0), [], 0)) ((98, .getfield 7, 3, 12, 8, (0), (0), [], 1272))))) (cond (Nat.ble 94 pc) (cond (Nat.ble 96 pc) (cond (Nat.ble 97 pc) ((97, .dup, 1, 0, 0, (0), (0), [], 0)) ((96, .aload_n 0, 1, 0, 0, (0), (0), [], 0))) (cond (Nat.ble 95 pc) ((95, .iastore, 1, 0, 0, (0), (0), [], 0)) ((94, .iconst (-1), 1, 0, 0, (-1), (0), [], 0)))) (cond (Nat.ble 90 pc) (cond (Nat.ble 91 pc) ((91, .getfield 7, 3, 12, 8, (0), (0), [], 1272)) ((90, .aload_n 0, 1, 0, 0, (0), (0), [], 0))) (cond (Nat.ble 87 pc) ((87, .getfield 111, 3, 12, 13, (0), (0), [], 1277)) ((86, .aload_n 0, 1, 0, 0, (0), (0), [], 0)))))) (cond (Nat.ble 74 pc) (cond (Nat.ble 80 pc) (cond (Nat.ble 84 pc) (cond (Nat.ble 85 pc) ((85, .iastore, 1, 0, 0, (0), (0), [], 0)) ((84, .iload_n 3, 1, 3, 0, (0), (0), [], 0))) (cond (Nat.ble 81 pc) ((81, .getfield 7, 3, 12, 8, (0), (0), [], 1272)) ((80, .aload_n 0, 1, 0, 0, (0), (0), [], 0)))) (cond (Nat.ble 76 pc) (cond (Nat.ble 77 pc) ((77, .getfield 108, 3, 12, 12, (0), (0), [], 1276)) ((76, .aload_n 0, 1, 0, 0, (0), (0), [], 0))) (cond (Nat.ble 75 pc) ((75, .iastore, 1, 0, 0, (0), (0), [], 0)) ((74, .iload_n 2, 1, 2, 0, (0), (0), [], 0))))) (cond (Nat.ble 66 pc) (cond (Nat.ble 70 pc) (cond (Nat.ble 71 pc) ((71, .getfield 7, 3, 12, 8, (0), (0), [], 1272)) ((70, .aload_n 0, 1, 0, 0, (0), (0), [], 0))) (cond (Nat.ble 67 pc) ((67, .getfield 105, 3, 12, 11, (0), (0), [], 1275)) ((66, .aload_n 0, 1, 0, 0, (0), (0), [], 0)))) (cond (Nat.ble 64 pc) (cond (Nat.ble 65 pc) ((65, .iastore, 1, 0, 0, (0), (0), [], 0)) ((64, .iconst (-1), 1, 0, 0, (-1), (0), [], 0))) (cond (Nat.ble 61 pc) ((61, .getfield 7, 3, 12, 8, (0), (0), [], 1272)) ((60, .aload_n 0, 1, 0, 0, (0), (0), [], 0))))))) (cond (Nat.ble 32 pc) (cond (Nat.ble 46 pc) (cond (Nat.ble 54 pc) (cond (Nat.ble 56 pc) (cond (Nat.ble 57 pc) ((57, .getfield 100, 3, 12, 10, (0), (0), [], 1274)) ((56, .aload_n 0, 1, 0, 0, (0), (0), [], 0))) (cond (Nat.ble 55 pc) ((55, .iastore, 1, 0, 0, (0), (0), [], 0)) ((54, .iload_n 1, 1, 1, 0, (0), (0), [], 0)))) (cond (Nat.ble 50 pc) (cond (Nat.ble 51 pc) ((51, .getfield 7, 3, 12, 8, (0), (0), [], 1272)) ((50, .aload_n 0, 1, 0, 0, (0), (0), [], 0))) (cond (Nat.ble 47 pc) ((47, .getfield 82, 3, 12, 9, (0), (0), [], 1273)) ((46, .aload_n 0, 1, 0, 0, (0), (0), [], 0))))) (cond (Nat.ble 39 pc) (cond (Nat.ble 43 pc) (cond (Nat.ble 45 pc) ((45, .ireturn, 1, 0, 0, (0), (0), [], 0)) ((43, .bipush (-4), 2, 0, 0, (-4), (0), [], 0))) (cond (Nat.ble 40 pc) ((40, .if_icmp .ne 6, 3, 46, 0, (0), (0), [], 0)) ((39, .iconst 4, 1, 0, 0, (4), (0), [], 0)))) (cond (Nat.ble 35 pc) (cond (Nat.ble 36 pc) ((36, .getfield 7, 3, 12, 8, (0), (0), [], 1272)) ((35, .aload_n 0, 1, 0, 0, (0), (0), [], 0))) (cond (Nat.ble 34 pc) ((34, .ireturn, 1, 0, 0, (0), (0), [], 0)) ((32, .bipush (-2), 2, 0, 0, (-2), (0), [], 0)))))) (cond (Nat.ble 14 pc) (cond (Nat.ble 22 pc) (cond (Nat.ble 26 pc) (cond (Nat.ble 29 pc) ((29, .ifCond .ne 6, 3, 35, 0, (0), (0), [], 0)) ((26, .invokestatic 12, 3, 119, 3, (0), (0), [], 1091))) (cond (Nat.ble 23 pc) ((23, .ldc2_w 103, 3, 0, 0, (0), (99999), [], 1141)) ((22, .lconst 0, 1, 0, 0, (0), (0), [], 0)))) (cond (Nat.ble 20 pc) (cond (Nat.ble 21 pc) ((21, .i2l, 1, 0, 0, (0), (0), [], 0)) ((20, .iload_n 3, 1, 3, 0, (0), (0), [], 0))) (cond (Nat.ble 17 pc) ((17, .ifCond .eq 15, 3, 32, 0, (0), (0), [], 0)) ((14, .invokestatic 12, 3, 119, 3, (0), (0), [], 1091))))) (cond (Nat.ble 8 pc) (cond (Nat.ble 10 pc) (cond (Nat.ble 11 pc) ((11, .ldc2_w 26, 3, 0, 0, (0), (99), [], 1090)) ((10, .lconst 1, 1, 0, 0, (0), (1), [], 0))) (cond (Nat.ble 9 pc) ((9, .i2l, 1, 0, 0, (0), (0), [], 0)) ((8, .iload_n 2, 1, 2, 0, (0), (0), [], 0)))) (cond (Nat.ble 2 pc) (cond (Nat.ble 5 pc) ((5, .ifCond .eq 27, 3, 32, 0, (0), (0), [], 0)) ((2, .invokevirtual 34, 3, 121, 2, (0), (0), [], 1098))) (cond (Nat.ble 1 pc) ((1, .iload_n 1, 1, 1, 0, (0), (0), [], 0)) ((0, .aload_n 0, 1, 0, 0, (0), (0), [], 0)))))))
def pg_130 (pc : Nat) : RI := cond (Nat.ble 87 pc) (cond (Nat.ble 107 pc) (cond (Nat.ble 116 pc) (cond (Nat.ble 123 pc) (cond (Nat.ble 125 pc) (cond (Nat.ble 127 pc) ((127, .ireturn, 1, 0, 0, (0), (0), [], 0)) ((125, .bipush (-2), 2, 0, 0, (-2), (0), [], 0))) (cond (Nat.ble 124 pc) ((124, .ireturn, 1, 0, 0, (0), (0), [], 0)) ((123, .iconst 0, 1, 0, 0, (0), (0), [], 0)))) (cond (Nat.ble 119 pc) (cond (Nat.ble 120 pc) ((120, .goto 4, 3, 124, 0, (0), (0), [], 0)) ((119, .iconst 1, 1, 0, 0, (1), (0), [], 0))) ((116, .ifCond .eq 7, 3, 123, 0, (0), (0), [], 0)))) (cond (Nat.ble 110 pc) (cond (Nat.ble 114 pc) (cond (Nat.ble 115 pc) ((115, .baload, 1, 0, 0, (0), (0), [], 0)) ((114, .iload_n 1, 1, 1, 0, (0), (0), [], 0))) (cond (Nat.ble 111 pc) ((111, .getfield 96, 3, 12, 15, (0), (0), [], 1279)) ((110, .aload_n 0, 1, 0, 0, (0), (0), [], 0)))) (cond (Nat.ble 108 pc) (cond (Nat.ble 109 pc) ((109, .ireturn, 1, 0, 0, (0), (0), [], 0)) ((108, .iaload, 1, 0, 0, (0), (0), [], 0))) ((107, .iload_n 1, 1, 1, 0, (0), (0), [], 0))))) (cond (Nat.ble 96 pc) (cond (Nat.ble 99 pc) (cond (Nat.ble 103 pc) (cond (Nat.ble 104 pc) ((104, .getfield 111, 3, 12, 13, (0), (0), [], 1277)) ((103, .aload_n 0, 1, 0, 0, (0), (0), [], 0))) (cond (Nat.ble 102 pc) ((102, .ireturn, 1, 0, 0, (0), (0), [], 0)) ((99, .invokevirtual 117, 3, 132, 2, (0), (0), [], 1150)))) (cond (Nat.ble 97 pc) (cond (Nat.ble 98 pc) ((98, .iload_n 1, 1, 1, 0, (0), (0), [], 0)) ((97, .aload_n 0, 1, 0, 0, (0), (0), [], 0))) ((96, .ireturn, 1, 0, 0, (0), (0), [], 0)))) (cond (Nat.ble 90 pc) (cond (Nat.ble 94 pc) (cond (Nat.ble 95 pc) ((95, .iaload, 1, 0, 0, (0), (0), [], 0)) ((94, .iload_n 1, 1, 1, 0, (0), (0), [], 0))) (cond (Nat.ble 91 pc) ((91, .getfield 108, 3, 12, 12, (0), (0), [], 1276)) ((90, .aload_n 0, 1, 0, 0, (0), (0), [], 0)))) (cond (Nat.ble 88 pc) (cond (Nat.ble 89 pc) ((89, .ireturn, 1, 0, 0, (0), (0), [], 0)) ((88, .iaload, 1, 0, 0, (0), (0), [], 0))) ((87, .iload_n 1, 1, 1, 0, (0), (0), [], 0)))))) (cond (Nat.ble 65 pc) (cond (Nat.ble 76 pc) (cond (Nat.ble 81 pc) (cond (Nat.ble 83 pc) (cond (Nat.ble 84 pc) ((84, .getfield 105, 3, 12, 11, (0), (0), [], 1275)) ((83, .aload_n 0, 1, 0, 0, (0), (0), [], 0))) (cond (Nat.ble 82 pc) ((82, .ireturn, 1, 0, 0, (0), (0), [], 0)) ((81, .iaload, 1, 0, 0, (0), (0), [], 0)))) (cond (Nat.ble 77 pc) (cond (Nat.ble 80 pc) ((80, .iload_n 1, 1, 1, 0, (0), (0), [], 0)) ((77, .getfield 100, 3, 12, 10, (0), (0), [], 1274))) ((76, .aload_n 0, 1, 0, 0, (0), (0), [], 0)))) (cond (Nat.ble 70 pc) (cond (Nat.ble 74 pc) (cond (Nat.ble 75 pc) ((75, .ireturn, 1, 0, 0, (0), (0), [], 0)) ((74, .iaload, 1, 0, 0, (0), (0), [], 0))) (cond (Nat.ble 73 pc) ((73, .iload_n 1, 1, 1, 0, (0), (0), [], 0)) ((70, .getfield 82, 3, 12, 9, (0), (0), [], 1273)))) (cond (Nat.ble 66 pc) (cond (Nat.ble 69 pc) ((69, .aload_n 0, 1, 0, 0, (0), (0), [], 0)) ((66, .goto 9, 3, 75, 0, (0), (0), [], 0))) ((65, .iconst (-1), 1, 0, 0, (-1), (0), [], 0))))) (cond (Nat.ble 11 pc) (cond (Nat.ble 57 pc) (cond (Nat.ble 61 pc) (cond (Nat.ble 62 pc) ((62, .ifCond .eq 7, 3, 69, 0, (0), (0), [], 0)) ((61, .baload, 1, 0, 0, (0), (0), [], 0))) (cond (Nat.ble 60 pc) ((60, .iload_n 1, 1, 1, 0, (0), (0), [], 0)) ((57, .getfield 96, 3, 12, 15, (0), (0), [], 1279)))) (cond (Nat.ble 12 pc) (cond (Nat.ble 56 pc) ((56, .aload_n 0, 1, 0, 0, (0), (0), [], 0)) ((12, .tableswitch 113 0 6 #[44, 64, 71, 78, 85, 91, 98], 44, 125, 0, (0), (0), [((0), 56), ((1), 76), ((2), 83), ((3), 90), ((4), 97), ((5), 103), ((6), 110)], 0))) ((11, .iload_n 2, 1, 2, 0, (0), (0), [], 0)))) (cond (Nat.ble 5 pc) (cond (Nat.ble 8 pc) (cond (Nat.ble 10 pc) ((10, .ireturn, 1, 0, 0, (0), (0), [], 0)) ((8, .bipush (-2), 2, 0, 0, (-2), (0), [], 0))) ((5, .ifCond .ne 6, 3, 11, 0, (0), (0), [], 0))) (cond (Nat.ble 1 pc) (cond (Nat.ble 2 pc) ((2, .invokevirtual 114, 3, 131, 2, (0), (0), [], 1146)) ((1, .iload_n 1, 1, 1, 0, (0), (0), [], 0))) ((0, .aload_n 0, 1, 0, 0, (0), (0), [], 0))))))
def pg_131 (pc : Nat) : RI := cond (Nat.ble 9 pc) (cond (Nat.ble 13 pc) (cond (Nat.ble 16 pc) (cond (Nat.ble 17 pc) ((17, .ireturn, 1, 1, 0, (0), (0), [], 0)) ((16, .iconst 0, 1, 0, 0, (0), (0), [], 0))) ((13, .goto 4, 3, 17, 0, (0), (0), [], 0))) (cond (Nat.ble 12 pc) ((12, .iconst 1, 1, 0, 0, (1), (0), [], 0)) ((9, .if_icmp .ge 7, 3, 16, 0, (0), (0), [], 0)))) (cond (Nat.ble 4 pc) (cond (Nat.ble 5 pc) (cond (Nat.ble 6 pc) ((6, .getfield 7, 3, 12, 8, (0), (0), [], 1272)) ((5, .aload_n 0, 1, 0, 0, (0), (0), [], 0))) ((4, .iload_n 1, 1, 1, 0, (0), (0), [], 0))) (cond (Nat.ble 1 pc) ((1, .ifCond .lt 15, 3, 16, 0, (0), (0), [], 0)) ((0, .iload_n 1, 1, 1, 0, (0), (0), [], 0))))
def pg_132 (pc : Nat) : RI := cond (Nat.ble 23 pc) (cond (Nat.ble 31 pc) (cond (Nat.ble 37 pc) (cond (Nat.ble 39 pc) (cond (Nat.ble 40 pc) (cond (Nat.ble 41 pc) ((41, .ireturn, 1, 0, 0, (0), (0), [], 0)) ((40, .iadd, 1, 0, 0, (0), (0), [], 0))) ((39, .iaload, 1, 0, 0, (0), (0), [], 0))) (cond (Nat.ble 38 pc) ((38, .iadd, 1, 0, 0, (0), (0), [], 0)) ((37, .iconst 3, 1, 0, 0, (3), (0), [], 0)))) (cond (Nat.ble 35 pc) (cond (Nat.ble 36 pc) ((36, .imul, 1, 0, 0, (0), (0), [], 0)) ((35, .iload_n 1, 1, 1, 0, (0), (0), [], 0))) (cond (Nat.ble 34 pc) ((34, .iconst 4, 1, 0, 0, (4), (0), [], 0)) ((31, .getfield 93, 3, 12, 16, (0), (0), [], 1280))))) (cond (Nat.ble 27 pc) (cond (Nat.ble 29 pc) (cond (Nat.ble 30 pc) ((30, .aload_n 0, 1, 0, 0, (0), (0), [], 0)) ((29, .iadd, 1, 0, 0, (0), (0), [], 0))) (cond (Nat.ble 28 pc) ((28, .iaload, 1, 0, 0, (0), (0), [], 0)) ((27, .iadd, 1, 0, 0, (0), (0), [], 0)))) (cond (Nat.ble 25 pc) (cond (Nat.ble 26 pc) ((26, .iconst 2, 1, 0, 0, (2), (0), [], 0)) ((25, .imul, 1, 0, 0, (0), (0), [], 0))) (cond (Nat.ble 24 pc) ((24, .iload_n 1, 1, 1, 0, (0), (0), [], 0)) ((23, .iconst 4, 1, 0, 0, (4), (0), [], 0)))))) (cond (Nat.ble 12 pc) (cond (Nat.ble 16 pc) (cond (Nat.ble 18 pc) (cond (Nat.ble 19 pc) (cond (Nat.ble 20 pc) ((20, .getfield 93, 3, 12, 16, (0), (0), [], 1280)) ((19, .aload_n 0, 1, 0, 0, (0), (0), [], 0))) ((18, .iadd, 1, 0, 0, (0), (0), [], 0))) (cond (Nat.ble 17 pc) ((17, .iaload, 1, 0, 0, (0), (0), [], 0)) ((16, .iadd, 1, 0, 0, (0), (0), [], 0)))) (cond (Nat.ble 14 pc) (cond (Nat.ble 15 pc) ((15, .iconst 1, 1, 0, 0, (1), (0), [], 0)) ((14, .imul, 1, 0, 0, (0), (0), [], 0))) (cond (Nat.ble 13 pc) ((13, .iload_n 1, 1, 1, 0, (0), (0), [], 0)) ((12, .iconst 4, 1, 0, 0, (4), (0), [], 0))))) (cond (Nat.ble 6 pc) (cond (Nat.ble 8 pc) (cond (Nat.ble 9 pc) ((9, .getfield 93, 3, 12, 16, (0), (0), [], 1280)) ((8, .aload_n 0, 1, 0, 0, (0), (0), [], 0))) (cond (Nat.ble 7 pc) ((7, .iaload, 1, 0, 0, (0), (0), [], 0)) ((6, .imul, 1, 0, 0, (0), (0), [], 0)))) (cond (Nat.ble 4 pc) (cond (Nat.ble 5 pc) ((5, .iload_n 1, 1, 1, 0, (0), (0), [], 0)) ((4, .iconst 4, 1, 0, 0, (4), (0), [], 0))) (cond (Nat.ble 1 pc) ((1, .getfield 93, 3, 12, 16, (0), (0), [], 1280)) ((0, .aload_n 0, 1, 0, 0, (0), (0), [], 0))))))
def pg_133 (pc : Nat) : RI := cond (Nat.ble 19 pc) (cond (Nat.ble 23 pc) (cond (Nat.ble 25 pc) (cond (Nat.ble 28 pc) (cond (Nat.ble 30 pc) ((30, .ireturn, 1, 0, 0, (0), (0), [], 0)) ((28, .bipush (-2), 2, 0, 0, (-2), (0), [], 0))) ((25, .goto 5, 3, 30, 0, (0), (0), [], 0))) (cond (Nat.ble 24 pc) ((24, .iaload, 1, 0, 0, (0), (0), [], 0)) ((23, .iadd, 1, 0, 0, (0), (0), [], 0)))) (cond (Nat.ble 21 pc) (cond (Nat.ble 22 pc) ((22, .iload_n 2, 1, 2, 0, (0), (0), [], 0)) ((21, .imul, 1, 0, 0, (0), (0), [], 0))) (cond (Nat.ble 20 pc) ((20, .iload_n 1, 1, 1, 0, (0), (0), [], 0)) ((19, .iconst 4, 1, 0, 0, (4), (0), [], 0))))) (cond (Nat.ble 8 pc) (cond (Nat.ble 12 pc) (cond (Nat.ble 15 pc) (cond (Nat.ble 16 pc) ((16, .getfield 93, 3, 12, 16, (0), (0), [], 1280)) ((15, .aload_n 0, 1, 0, 0, (0), (0), [], 0))) ((12, .ifCond .eq 16, 3, 28, 0, (0), (0), [], 0))) (cond (Nat.ble 9 pc) ((9, .invokestatic 38, 3, 122, 1, (0), (0), [], 1103)) ((8, .iload_n 2, 1, 2, 0, (0), (0), [], 0)))) (cond (Nat.ble 2 pc) (cond (Nat.ble 5 pc) ((5, .ifCond .eq 23, 3, 28, 0, (0), (0), [], 0)) ((2, .invokevirtual 114, 3, 131, 2, (0), (0), [], 1146))) (cond (Nat.ble 1 pc) ((1, .iload_n 1, 1, 1, 0, (0), (0), [], 0)) ((0, .aload_n 0, 1, 0, 0, (0), (0), [], 0)))))
def pg_134 (pc : Nat) : RI := cond (Nat.ble 62 pc) (cond (Nat.ble 85 pc) (cond (Nat.ble 98 pc) (cond (Nat.ble 103 pc) (cond (Nat.ble 107 pc) (cond (Nat.ble 108 pc) (cond (Nat.ble 109 pc) ((109, .ireturn, 1, 0, 0, (0), (0), [], 0)) ((108, .iaload, 1, 0, 0, (0), (0), [], 0))) ((107, .iload_n 1, 1, 1, 0, (0), (0), [], 0))) (cond (Nat.ble 104 pc) ((104, .getfield 108, 3, 12, 12, (0), (0), [], 1276)) ((103, .aload_n 0, 1, 0, 0, (0), (0), [], 0)))) (cond (Nat.ble 100 pc) (cond (Nat.ble 101 pc) (cond (Nat.ble 102 pc) ((102, .iastore, 1, 0, 0, (0), (0), [], 0)) ((101, .iadd, 1, 0, 0, (0), (0), [], 0))) ((100, .iload_n 3, 1, 3, 0, (0), (0), [], 0))) (cond (Nat.ble 99 pc) ((99, .iaload, 1, 0, 0, (0), (0), [], 0)) ((98, .dup2, 1, 0, 0, (0), (0), [], 0))))) (cond (Nat.ble 93 pc) (cond (Nat.ble 95 pc) (cond (Nat.ble 96 pc) (cond (Nat.ble 97 pc) ((97, .iadd, 1, 0, 0, (0), (0), [], 0)) ((96, .iload_n 2, 1, 2, 0, (0), (0), [], 0))) ((95, .imul, 1, 0, 0, (0), (0), [], 0))) (cond (Nat.ble 94 pc) ((94, .iaload, 1, 0, 0, (0), (0), [], 0)) ((93, .iload_n 1, 1, 1, 0, (0), (0), [], 0)))) (cond (Nat.ble 89 pc) (cond (Nat.ble 90 pc) ((90, .getfield 82, 3, 12, 9, (0), (0), [], 1273)) ((89, .aload_n 0, 1, 0, 0, (0), (0), [], 0))) (cond (Nat.ble 88 pc) ((88, .iconst 4, 1, 0, 0, (4), (0), [], 0)) ((85, .getfield 23, 3, 12, 6, (0), (0), [], 1270)))))) (cond (Nat.ble 75 pc) (cond (Nat.ble 80 pc) (cond (Nat.ble 82 pc) (cond (Nat.ble 83 pc) (cond (Nat.ble 84 pc) ((84, .aload_n 0, 1, 0, 0, (0), (0), [], 0)) ((83, .iastore, 1, 0, 0, (0), (0), [], 0))) ((82, .isub, 1, 0, 0, (0), (0), [], 0))) (cond (Nat.ble 81 pc) ((81, .iload_n 3, 1, 3, 0, (0), (0), [], 0)) ((80, .iaload, 1, 0, 0, (0), (0), [], 0)))) (cond (Nat.ble 77 pc) (cond (Nat.ble 78 pc) (cond (Nat.ble 79 pc) ((79, .dup2, 1, 0, 0, (0), (0), [], 0)) ((78, .iadd, 1, 0, 0, (0), (0), [], 0))) ((77, .iload_n 2, 1, 2, 0, (0), (0), [], 0))) (cond (Nat.ble 76 pc) ((76, .imul, 1, 0, 0, (0), (0), [], 0)) ((75, .iload_n 1, 1, 1, 0, (0), (0), [], 0))))) (cond (Nat.ble 68 pc) (cond (Nat.ble 70 pc) (cond (Nat.ble 71 pc) (cond (Nat.ble 74 pc) ((74, .iconst 4, 1, 0, 0, (4), (0), [], 0)) ((71, .getfield 93, 3, 12, 16, (0), (0), [], 1280))) ((70, .aload_n 0, 1, 0, 0, (0), (0), [], 0))) (cond (Nat.ble 69 pc) ((69, .iastore, 1, 0, 0, (0), (0), [], 0)) ((68, .iadd, 1, 0, 0, (0), (0), [], 0)))) (cond (Nat.ble 64 pc) (cond (Nat.ble 67 pc) ((67, .imul, 1, 0, 0, (0), (0), [], 0)) ((64, .invokevirtual 43, 3, 123, 3, (0), (0), [], 1108))) (cond (Nat.ble 63 pc) ((63, .iload_n 2, 1, 2, 0, (0), (0), [], 0)) ((62, .iaload, 1, 0, 0, (0), (0), [], 0))))))) (cond (Nat.ble 36 pc) (cond (Nat.ble 48 pc) (cond (Nat.ble 55 pc) (cond (Nat.ble 57 pc) (cond (Nat.ble 58 pc) (cond (Nat.ble 61 pc) ((61, .iload_n 1, 1, 1, 0, (0), (0), [], 0)) ((58, .getfield 82, 3, 12, 9, (0), (0), [], 1273))) ((57, .aload_n 0, 1, 0, 0, (0), (0), [], 0))) (cond (Nat.ble 56 pc) ((56, .aload_n 0, 1, 0, 0, (0), (0), [], 0)) ((55, .iload_n 3, 1, 3, 0, (0), (0), [], 0)))) (cond (Nat.ble 52 pc) (cond (Nat.ble 53 pc) (cond (Nat.ble 54 pc) ((54, .iaload, 1, 0, 0, (0), (0), [], 0)) ((53, .dup2, 1, 0, 0, (0), (0), [], 0))) ((52, .iload_n 1, 1, 1, 0, (0), (0), [], 0))) (cond (Nat.ble 49 pc) ((49, .getfield 108, 3, 12, 12, (0), (0), [], 1276)) ((48, .aload_n 0, 1, 0, 0, (0), (0), [], 0))))) (cond (Nat.ble 40 pc) (cond (Nat.ble 42 pc) (cond (Nat.ble 45 pc) (cond (Nat.ble 47 pc) ((47, .ireturn, 1, 0, 0, (0), (0), [], 0)) ((45, .bipush (-3), 2, 0, 0, (-3), (0), [], 0))) ((42, .if_icmp .ge 6, 3, 48, 0, (0), (0), [], 0))) (cond (Nat.ble 41 pc) ((41, .iload_n 3, 1, 3, 0, (0), (0), [], 0)) ((40, .iaload, 1, 0, 0, (0), (0), [], 0)))) (cond (Nat.ble 38 pc) (cond (Nat.ble 39 pc) ((39, .iadd, 1, 0, 0, (0), (0), [], 0)) ((38, .iload_n 2, 1, 2, 0, (0), (0), [], 0))) (cond (Nat.ble 37 pc) ((37, .imul, 1, 0, 0, (0), (0), [], 0)) ((36, .iload_n 1, 1, 1, 0, (0), (0), [], 0)))))) (cond (Nat.ble 17 pc) (cond (Nat.ble 25 pc) (cond (Nat.ble 31 pc) (cond (Nat.ble 32 pc) (cond (Nat.ble 35 pc) ((35, .iconst 4, 1, 0, 0, (4), (0), [], 0)) ((32, .getfield 93, 3, 12, 16, (0), (0), [], 1280))) ((31, .aload_n 0, 1, 0, 0, (0), (0), [], 0))) (cond (Nat.ble 28 pc) ((28, .ifCond .eq 17, 3, 45, 0, (0), (0), [], 0)) ((25, .invokevirtual 121, 3, 135, 2, (0), (0), [], 1162)))) (cond (Nat.ble 22 pc) (cond (Nat.ble 23 pc) (cond (Nat.ble 24 pc) ((24, .iload_n 1, 1, 1, 0, (0), (0), [], 0)) ((23, .aload_n 0, 1, 0, 0, (0), (0), [], 0))) ((22, .ireturn, 1, 0, 0, (0), (0), [], 0))) (cond (Nat.ble 20 pc) ((20, .bipush (-2), 2, 0, 0, (-2), (0), [], 0)) ((17, .if_icmp .ge 6, 3, 23, 0, (0), (0), [], 0))))) (cond (Nat.ble 8 pc) (cond (Nat.ble 12 pc) (cond (Nat.ble 15 pc) (cond (Nat.ble 16 pc) ((16, .iconst 1, 1, 0, 0, (1), (0), [], 0)) ((15, .iload_n 3, 1, 3, 0, (0), (0), [], 0))) ((12, .ifCond .eq 8, 3, 20, 0, (0), (0), [], 0))) (cond (Nat.ble 9 pc) ((9, .invokestatic 38, 3, 122, 1, (0), (0), [], 1103)) ((8, .iload_n 2, 1, 2, 0, (0), (0), [], 0)))) (cond (Nat.ble 2 pc) (cond (Nat.ble 5 pc) ((5, .ifCond .eq 15, 3, 20, 0, (0), (0), [], 0)) ((2, .invokevirtual 114, 3, 131, 2, (0), (0), [], 1146))) (cond (Nat.ble 1 pc) ((1, .iload_n 1, 1, 1, 0, (0), (0), [], 0)) ((0, .aload_n 0, 1, 0, 0, (0), (0), [], 0)))))))
def pg_135 (pc : Nat) : RI := cond (Nat.ble 13 pc) (cond (Nat.ble 19 pc) (cond (Nat.ble 23 pc) (cond (Nat.ble 24 pc) ((24, .ireturn, 1, 1, 0, (0), (0), [], 0)) ((23, .iconst 0, 1, 0, 0, (0), (0), [], 0))) (cond (Nat.ble 20 pc) ((20, .goto 4, 3, 24, 0, (0), (0), [], 0)) ((19, .iconst 1, 1, 0, 0, (1), (0), [], 0)))) (cond (Nat.ble 15 pc) (cond (Nat.ble 16 pc) ((16, .if_icmp .ne 7, 3, 23, 0, (0), (0), [], 0)) ((15, .iconst (-1), 1, 0, 0, (-1), (0), [], 0))) (cond (Nat.ble 14 pc) ((14, .iaload, 1, 0, 0, (0), (0), [], 0)) ((13, .iload_n 1, 1, 1, 0, (0), (0), [], 0))))) (cond (Nat.ble 5 pc) (cond (Nat.ble 9 pc) (cond (Nat.ble 10 pc) ((10, .getfield 100, 3, 12, 10, (0), (0), [], 1274)) ((9, .aload_n 0, 1, 0, 0, (0), (0), [], 0))) (cond (Nat.ble 6 pc) ((6, .ifCond .ne 17, 3, 23, 0, (0), (0), [], 0)) ((5, .baload, 1, 0, 0, (0), (0), [], 0)))) (cond (Nat.ble 1 pc) (cond (Nat.ble 4 pc) ((4, .iload_n 1, 1, 1, 0, (0), (0), [], 0)) ((1, .getfield 96, 3, 12, 15, (0), (0), [], 1279))) ((0, .aload_n 0, 1, 0, 0, (0), (0), [], 0))))
def pg_136 (pc : Nat) : RI := cond (Nat.ble 90 pc) (cond (Nat.ble 126 pc) (cond (Nat.ble 148 pc) (cond (Nat.ble 160 pc) (cond (Nat.ble 163 pc) (cond (Nat.ble 167 pc) (cond (Nat.ble 168 pc) ((168, .ireturn, 1, 0, 0, (0), (0), [], 0)) ((167, .iaload, 1, 0, 0, (0), (0), [], 0))) (cond (Nat.ble 166 pc) ((166, .iload_n 1, 1, 1, 0, (0), (0), [], 0)) ((163, .getfield 108, 3, 12, 12, (0), (0), [], 1276)))) (cond (Nat.ble 161 pc) (cond (Nat.ble 162 pc) ((162, .aload_n 0, 1, 0, 0, (0), (0), [], 0)) ((161, .iastore, 1, 0, 0, (0), (0), [], 0))) ((160, .isub, 1, 0, 0, (0), (0), [], 0)))) (cond (Nat.ble 153 pc) (cond (Nat.ble 158 pc) (cond (Nat.ble 159 pc) ((159, .iload_n 3, 1, 3, 0, (0), (0), [], 0)) ((158, .iaload, 1, 0, 0, (0), (0), [], 0))) (cond (Nat.ble 156 pc) ((156, .iload 4, 2, 4, 0, (0), (0), [], 0)) ((153, .getfield 23, 3, 12, 6, (0), (0), [], 1270)))) (cond (Nat.ble 149 pc) (cond (Nat.ble 152 pc) ((152, .aload_n 0, 1, 0, 0, (0), (0), [], 0)) ((149, .goto 12, 3, 161, 0, (0), (0), [], 0))) ((148, .iconst 0, 1, 0, 0, (0), (0), [], 0))))) (cond (Nat.ble 135 pc) (cond (Nat.ble 141 pc) (cond (Nat.ble 144 pc) (cond (Nat.ble 145 pc) ((145, .if_icmp .ge 7, 3, 152, 0, (0), (0), [], 0)) ((144, .iload_n 3, 1, 3, 0, (0), (0), [], 0))) (cond (Nat.ble 143 pc) ((143, .iaload, 1, 0, 0, (0), (0), [], 0)) ((141, .iload 4, 2, 4, 0, (0), (0), [], 0)))) (cond (Nat.ble 137 pc) (cond (Nat.ble 138 pc) ((138, .getfield 23, 3, 12, 6, (0), (0), [], 1270)) ((137, .aload_n 0, 1, 0, 0, (0), (0), [], 0))) ((135, .iload 4, 2, 4, 0, (0), (0), [], 0)))) (cond (Nat.ble 129 pc) (cond (Nat.ble 131 pc) (cond (Nat.ble 132 pc) ((132, .getfield 23, 3, 12, 6, (0), (0), [], 1270)) ((131, .aload_n 0, 1, 0, 0, (0), (0), [], 0))) (cond (Nat.ble 130 pc) ((130, .iastore, 1, 0, 0, (0), (0), [], 0)) ((129, .iadd, 1, 0, 0, (0), (0), [], 0)))) (cond (Nat.ble 127 pc) (cond (Nat.ble 128 pc) ((128, .iload_n 3, 1, 3, 0, (0), (0), [], 0)) ((127, .iaload, 1, 0, 0, (0), (0), [], 0))) ((126, .dup2, 1, 0, 0, (0), (0), [], 0)))))) (cond (Nat.ble 108 pc) (cond (Nat.ble 117 pc) (cond (Nat.ble 122 pc) (cond (Nat.ble 124 pc) (cond (Nat.ble 125 pc) ((125, .iadd, 1, 0, 0, (0), (0), [], 0)) ((124, .iload_n 2, 1, 2, 0, (0), (0), [], 0))) (cond (Nat.ble 123 pc) ((123, .imul, 1, 0, 0, (0), (0), [], 0)) ((122, .iload_n 1, 1, 1, 0, (0), (0), [], 0)))) (cond (Nat.ble 118 pc) (cond (Nat.ble 121 pc) ((121, .iconst 4, 1, 0, 0, (4), (0), [], 0)) ((118, .getfield 93, 3, 12, 16, (0), (0), [], 1280))) ((117, .aload_n 0, 1, 0, 0, (0), (0), [], 0)))) (cond (Nat.ble 113 pc) (cond (Nat.ble 115 pc) (cond (Nat.ble 116 pc) ((116, .iastore, 1, 0, 0, (0), (0), [], 0)) ((115, .isub, 1, 0, 0, (0), (0), [], 0))) (cond (Nat.ble 114 pc) ((114, .imul, 1, 0, 0, (0), (0), [], 0)) ((113, .iadd, 1, 0, 0, (0), (0), [], 0)))) (cond (Nat.ble 109 pc) (cond (Nat.ble 112 pc) ((112, .iconst 1, 1, 0, 0, (1), (0), [], 0)) ((109, .invokevirtual 43, 3, 123, 3, (0), (0), [], 1108))) ((108, .iload_n 2, 1, 2, 0, (0), (0), [], 0))))) (cond (Nat.ble 99 pc) (cond (Nat.ble 102 pc) (cond (Nat.ble 106 pc) (cond (Nat.ble 107 pc) ((107, .iaload, 1, 0, 0, (0), (0), [], 0)) ((106, .iload_n 1, 1, 1, 0, (0), (0), [], 0))) (cond (Nat.ble 103 pc) ((103, .getfield 82, 3, 12, 9, (0), (0), [], 1273)) ((102, .aload_n 0, 1, 0, 0, (0), (0), [], 0)))) (cond (Nat.ble 100 pc) (cond (Nat.ble 101 pc) ((101, .aload_n 0, 1, 0, 0, (0), (0), [], 0)) ((100, .iload_n 3, 1, 3, 0, (0), (0), [], 0))) ((99, .iaload, 1, 0, 0, (0), (0), [], 0)))) (cond (Nat.ble 94 pc) (cond (Nat.ble 97 pc) (cond (Nat.ble 98 pc) ((98, .dup2, 1, 0, 0, (0), (0), [], 0)) ((97, .iload_n 1, 1, 1, 0, (0), (0), [], 0))) ((94, .getfield 108, 3, 12, 12, (0), (0), [], 1276))) (cond (Nat.ble 91 pc) (cond (Nat.ble 93 pc) ((93, .aload_n 0, 1, 0, 0, (0), (0), [], 0)) ((91, .istore 4, 2, 4, 0, (0), (0), [], 0))) ((90, .iadd, 1, 0, 0, (0), (0), [], 0))))))) (cond (Nat.ble 50 pc) (cond (Nat.ble 69 pc) (cond (Nat.ble 81 pc) (cond (Nat.ble 86 pc) (cond (Nat.ble 88 pc) (cond (Nat.ble 89 pc) ((89, .iload_n 2, 1, 2, 0, (0), (0), [], 0)) ((88, .imul, 1, 0, 0, (0), (0), [], 0))) (cond (Nat.ble 87 pc) ((87, .iaload, 1, 0, 0, (0), (0), [], 0)) ((86, .iload_n 1, 1, 1, 0, (0), (0), [], 0)))) (cond (Nat.ble 82 pc) (cond (Nat.ble 83 pc) ((83, .getfield 82, 3, 12, 9, (0), (0), [], 1273)) ((82, .aload_n 0, 1, 0, 0, (0), (0), [], 0))) ((81, .iconst 4, 1, 0, 0, (4), (0), [], 0)))) (cond (Nat.ble 74 pc) (cond (Nat.ble 78 pc) (cond (Nat.ble 80 pc) ((80, .ireturn, 1, 0, 0, (0), (0), [], 0)) ((78, .bipush (-3), 2, 0, 0, (-3), (0), [], 0))) (cond (Nat.ble 75 pc) ((75, .if_icmp .ge 6, 3, 81, 0, (0), (0), [], 0)) ((74, .imul, 1, 0, 0, (0), (0), [], 0)))) (cond (Nat.ble 72 pc) (cond (Nat.ble 73 pc) ((73, .iadd, 1, 0, 0, (0), (0), [], 0)) ((72, .iconst 1, 1, 0, 0, (1), (0), [], 0))) ((69, .invokevirtual 43, 3, 123, 3, (0), (0), [], 1108))))) (cond (Nat.ble 60 pc) (cond (Nat.ble 63 pc) (cond (Nat.ble 67 pc) (cond (Nat.ble 68 pc) ((68, .iload_n 2, 1, 2, 0, (0), (0), [], 0)) ((67, .iaload, 1, 0, 0, (0), (0), [], 0))) (cond (Nat.ble 66 pc) ((66, .iload_n 1, 1, 1, 0, (0), (0), [], 0)) ((63, .getfield 82, 3, 12, 9, (0), (0), [], 1273)))) (cond (Nat.ble 61 pc) (cond (Nat.ble 62 pc) ((62, .aload_n 0, 1, 0, 0, (0), (0), [], 0)) ((61, .aload_n 0, 1, 0, 0, (0), (0), [], 0))) ((60, .iload_n 3, 1, 3, 0, (0), (0), [], 0)))) (cond (Nat.ble 55 pc) (cond (Nat.ble 58 pc) (cond (Nat.ble 59 pc) ((59, .iaload, 1, 0, 0, (0), (0), [], 0)) ((58, .iload_n 1, 1, 1, 0, (0), (0), [], 0))) ((55, .getfield 108, 3, 12, 12, (0), (0), [], 1276))) (cond (Nat.ble 51 pc) (cond (Nat.ble 54 pc) ((54, .aload_n 0, 1, 0, 0, (0), (0), [], 0)) ((51, .if_icmp .gt 27, 3, 78, 0, (0), (0), [], 0))) ((50, .iaload, 1, 0, 0, (0), (0), [], 0)))))) (cond (Nat.ble 27 pc) (cond (Nat.ble 39 pc) (cond (Nat.ble 44 pc) (cond (Nat.ble 46 pc) (cond (Nat.ble 49 pc) ((49, .iload_n 1, 1, 1, 0, (0), (0), [], 0)) ((46, .getfield 105, 3, 12, 11, (0), (0), [], 1275))) (cond (Nat.ble 45 pc) ((45, .aload_n 0, 1, 0, 0, (0), (0), [], 0)) ((44, .iadd, 1, 0, 0, (0), (0), [], 0)))) (cond (Nat.ble 40 pc) (cond (Nat.ble 43 pc) ((43, .iload_n 3, 1, 3, 0, (0), (0), [], 0)) ((40, .invokevirtual 117, 3, 132, 2, (0), (0), [], 1150))) ((39, .iload_n 1, 1, 1, 0, (0), (0), [], 0)))) (cond (Nat.ble 31 pc) (cond (Nat.ble 35 pc) (cond (Nat.ble 38 pc) ((38, .aload_n 0, 1, 0, 0, (0), (0), [], 0)) ((35, .ifCond .eq 43, 3, 78, 0, (0), (0), [], 0))) (cond (Nat.ble 32 pc) ((32, .invokevirtual 121, 3, 135, 2, (0), (0), [], 1162)) ((31, .iload_n 1, 1, 1, 0, (0), (0), [], 0)))) (cond (Nat.ble 29 pc) (cond (Nat.ble 30 pc) ((30, .aload_n 0, 1, 0, 0, (0), (0), [], 0)) ((29, .ireturn, 1, 0, 0, (0), (0), [], 0))) ((27, .bipush (-2), 2, 0, 0, (-2), (0), [], 0))))) (cond (Nat.ble 12 pc) (cond (Nat.ble 17 pc) (cond (Nat.ble 21 pc) (cond (Nat.ble 24 pc) ((24, .ifCond .ne 6, 3, 30, 0, (0), (0), [], 0)) ((21, .invokestatic 12, 3, 119, 3, (0), (0), [], 1091))) (cond (Nat.ble 18 pc) ((18, .ldc2_w 26, 3, 0, 0, (0), (99), [], 1090)) ((17, .lconst 1, 1, 0, 0, (0), (1), [], 0)))) (cond (Nat.ble 15 pc) (cond (Nat.ble 16 pc) ((16, .i2l, 1, 0, 0, (0), (0), [], 0)) ((15, .iload_n 3, 1, 3, 0, (0), (0), [], 0))) ((12, .ifCond .eq 15, 3, 27, 0, (0), (0), [], 0)))) (cond (Nat.ble 5 pc) (cond (Nat.ble 8 pc) (cond (Nat.ble 9 pc) ((9, .invokestatic 38, 3, 122, 1, (0), (0), [], 1103)) ((8, .iload_n 2, 1, 2, 0, (0), (0), [], 0))) ((5, .ifCond .eq 22, 3, 27, 0, (0), (0), [], 0))) (cond (Nat.ble 1 pc) (cond (Nat.ble 2 pc) ((2, .invokevirtual 114, 3, 131, 2, (0), (0), [], 1146)) ((1, .iload_n 1, 1, 1, 0, (0), (0), [], 0))) ((0, .aload_n 0, 1, 0, 0, (0), (0), [], 0)))))))
def pg_137 (pc : Nat) : RI := cond (Nat.ble 60 pc) (cond (Nat.ble 88 pc) (cond (Nat.ble 101 pc) (cond (Nat.ble 107 pc) (cond (Nat.ble 111 pc) (cond (Nat.ble 112 pc) (cond (Nat.ble 113 pc) ((113, .ireturn, 1, 0, 0, (0), (0), [], 0)) ((112, .iaload, 1, 0, 0, (0), (0), [], 0))) ((111, .iload_n 1, 1, 1, 0, (0), (0), [], 0))) (cond (Nat.ble 108 pc) ((108, .getfield 100, 3, 12, 10, (0), (0), [], 1274)) ((107, .aload_n 0, 1, 0, 0, (0), (0), [], 0)))) (cond (Nat.ble 105 pc) (cond (Nat.ble 106 pc) ((106, .iastore, 1, 0, 0, (0), (0), [], 0)) ((105, .iadd, 1, 0, 0, (0), (0), [], 0))) (cond (Nat.ble 104 pc) ((104, .iload_n 3, 1, 3, 0, (0), (0), [], 0)) ((101, .getfield 76, 3, 12, 0, (0), (0), [], 1264))))) (cond (Nat.ble 94 pc) (cond (Nat.ble 96 pc) (cond (Nat.ble 99 pc) (cond (Nat.ble 100 pc) ((100, .aload_n 0, 1, 0, 0, (0), (0), [], 0)) ((99, .iload_n 1, 1, 1, 0, (0), (0), [], 0))) ((96, .getfield 100, 3, 12, 10, (0), (0), [], 1274))) (cond (Nat.ble 95 pc) ((95, .aload_n 0, 1, 0, 0, (0), (0), [], 0)) ((94, .iastore, 1, 0, 0, (0), (0), [], 0)))) (cond (Nat.ble 92 pc) (cond (Nat.ble 93 pc) ((93, .iload_n 2, 1, 2, 0, (0), (0), [], 0)) ((92, .iload_n 1, 1, 1, 0, (0), (0), [], 0))) (cond (Nat.ble 89 pc) ((89, .getfield 82, 3, 12, 9, (0), (0), [], 1273)) ((88, .aload_n 0, 1, 0, 0, (0), (0), [], 0)))))) (cond (Nat.ble 74 pc) (cond (Nat.ble 80 pc) (cond (Nat.ble 83 pc) (cond (Nat.ble 84 pc) (cond (Nat.ble 85 pc) ((85, .invokevirtual 124, 3, 138, 2, (0), (0), [], 1174)) ((84, .iload_n 1, 1, 1, 0, (0), (0), [], 0))) ((83, .aload_n 0, 1, 0, 0, (0), (0), [], 0))) (cond (Nat.ble 82 pc) ((82, .ireturn, 1, 0, 0, (0), (0), [], 0)) ((80, .bipush (-3), 2, 0, 0, (-3), (0), [], 0)))) (cond (Nat.ble 76 pc) (cond (Nat.ble 77 pc) ((77, .if_icmp .ne 6, 3, 83, 0, (0), (0), [], 0)) ((76, .iconst (-1), 1, 0, 0, (-1), (0), [], 0))) (cond (Nat.ble 75 pc) ((75, .iload_n 3, 1, 3, 0, (0), (0), [], 0)) ((74, .istore_n 3, 1, 3, 0, (0), (0), [], 0))))) (cond (Nat.ble 66 pc) (cond (Nat.ble 68 pc) (cond (Nat.ble 71 pc) ((71, .invokevirtual 69, 3, 128, 4, (0), (0), [], 1133)) ((68, .getfield 76, 3, 12, 0, (0), (0), [], 1264))) (cond (Nat.ble 67 pc) ((67, .aload_n 0, 1, 0, 0, (0), (0), [], 0)) ((66, .iload_n 2, 1, 2, 0, (0), (0), [], 0)))) (cond (Nat.ble 64 pc) (cond (Nat.ble 65 pc) ((65, .iaload, 1, 0, 0, (0), (0), [], 0)) ((64, .iload_n 1, 1, 1, 0, (0), (0), [], 0))) (cond (Nat.ble 61 pc) ((61, .getfield 82, 3, 12, 9, (0), (0), [], 1273)) ((60, .aload_n 0, 1, 0, 0, (0), (0), [], 0))))))) (cond (Nat.ble 31 pc) (cond (Nat.ble 45 pc) (cond (Nat.ble 50 pc) (cond (Nat.ble 56 pc) (cond (Nat.ble 58 pc) (cond (Nat.ble 59 pc) ((59, .aload_n 0, 1, 0, 0, (0), (0), [], 0)) ((58, .ireturn, 1, 0, 0, (0), (0), [], 0))) ((56, .bipush (-3), 2, 0, 0, (-3), (0), [], 0))) (cond (Nat.ble 53 pc) ((53, .ifCond .ne 6, 3, 59, 0, (0), (0), [], 0)) ((50, .invokevirtual 121, 3, 135, 2, (0), (0), [], 1162)))) (cond (Nat.ble 48 pc) (cond (Nat.ble 49 pc) ((49, .iload_n 1, 1, 1, 0, (0), (0), [], 0)) ((48, .aload_n 0, 1, 0, 0, (0), (0), [], 0))) (cond (Nat.ble 47 pc) ((47, .ireturn, 1, 0, 0, (0), (0), [], 0)) ((45, .bipush (-2), 2, 0, 0, (-2), (0), [], 0))))) (cond (Nat.ble 39 pc) (cond (Nat.ble 41 pc) (cond (Nat.ble 42 pc) ((42, .if_icmp .ne 6, 3, 48, 0, (0), (0), [], 0)) ((41, .iload_n 2, 1, 2, 0, (0), (0), [], 0))) (cond (Nat.ble 40 pc) ((40, .iaload, 1, 0, 0, (0), (0), [], 0)) ((39, .iload_n 1, 1, 1, 0, (0), (0), [], 0)))) (cond (Nat.ble 35 pc) (cond (Nat.ble 36 pc) ((36, .getfield 82, 3, 12, 9, (0), (0), [], 1273)) ((35, .aload_n 0, 1, 0, 0, (0), (0), [], 0))) (cond (Nat.ble 32 pc) ((32, .if_icmp .ne 16, 3, 48, 0, (0), (0), [], 0)) ((31, .iconst (-1), 1, 0, 0, (-1), (0), [], 0)))))) (cond (Nat.ble 16 pc) (cond (Nat.ble 22 pc) (cond (Nat.ble 26 pc) (cond (Nat.ble 29 pc) (cond (Nat.ble 30 pc) ((30, .iaload, 1, 0, 0, (0), (0), [], 0)) ((29, .iload_n 1, 1, 1, 0, (0), (0), [], 0))) ((26, .getfield 100, 3, 12, 10, (0), (0), [], 1274))) (cond (Nat.ble 25 pc) ((25, .aload_n 0, 1, 0, 0, (0), (0), [], 0)) ((22, .ifCond .ne 26, 3, 48, 0, (0), (0), [], 0)))) (cond (Nat.ble 20 pc) (cond (Nat.ble 21 pc) ((21, .baload, 1, 0, 0, (0), (0), [], 0)) ((20, .iload_n 1, 1, 1, 0, (0), (0), [], 0))) (cond (Nat.ble 17 pc) ((17, .getfield 96, 3, 12, 15, (0), (0), [], 1279)) ((16, .aload_n 0, 1, 0, 0, (0), (0), [], 0))))) (cond (Nat.ble 8 pc) (cond (Nat.ble 10 pc) (cond (Nat.ble 13 pc) ((13, .ifCond .eq 32, 3, 45, 0, (0), (0), [], 0)) ((10, .invokevirtual 34, 3, 121, 2, (0), (0), [], 1098))) (cond (Nat.ble 9 pc) ((9, .iload_n 2, 1, 2, 0, (0), (0), [], 0)) ((8, .aload_n 0, 1, 0, 0, (0), (0), [], 0)))) (cond (Nat.ble 2 pc) (cond (Nat.ble 5 pc) ((5, .ifCond .eq 40, 3, 45, 0, (0), (0), [], 0)) ((2, .invokevirtual 114, 3, 131, 2, (0), (0), [], 1146))) (cond (Nat.ble 1 pc) ((1, .iload_n 1, 1, 1, 0, (0), (0), [], 0)) ((0, .aload_n 0, 1, 0, 0, (0), (0), [], 0)))))))
def pg_138 (pc : Nat) : RI := cond (Nat.ble 38 pc) (cond (Nat.ble 56 pc) (cond (Nat.ble 69 pc) (cond (Nat.ble 73 pc) (cond (Nat.ble 79 pc) (cond (Nat.ble 82 pc) ((82, .return_, 1, 0, 0, (0), (0), [], 0)) ((79, .goto (-67), 3, 12, 0, (0), (0), [], 0))) (cond (Nat.ble 76 pc) ((76, .iinc 2 1, 3, 2, 0, (1), (0), [], 0)) ((73, .invokevirtual 89, 3, 140, 3, (0), (0), [], 1182)))) (cond (Nat.ble 70 pc) (cond (Nat.ble 72 pc) ((72, .iload_n 3, 1, 3, 0, (0), (0), [], 0)) ((70, .iload 4, 2, 4, 0, (0), (0), [], 0))) ((69, .aload_n 0, 1, 0, 0, (0), (0), [], 0)))) (cond (Nat.ble 61 pc) (cond (Nat.ble 63 pc) (cond (Nat.ble 66 pc) ((66, .goto 10, 3, 76, 0, (0), (0), [], 0)) ((63, .invokevirtual 89, 3, 140, 3, (0), (0), [], 1182))) ((61, .iload 4, 2, 4, 0, (0), (0), [], 0))) (cond (Nat.ble 59 pc) (cond (Nat.ble 60 pc) ((60, .iload_n 3, 1, 3, 0, (0), (0), [], 0)) ((59, .aload_n 0, 1, 0, 0, (0), (0), [], 0))) ((56, .if_icmp .le 13, 3, 69, 0, (0), (0), [], 0))))) (cond (Nat.ble 47 pc) (cond (Nat.ble 51 pc) (cond (Nat.ble 54 pc) (cond (Nat.ble 55 pc) ((55, .iaload, 1, 0, 0, (0), (0), [], 0)) ((54, .iload_n 3, 1, 3, 0, (0), (0), [], 0))) ((51, .getfield 73, 3, 12, 17, (0), (0), [], 1281))) (cond (Nat.ble 49 pc) (cond (Nat.ble 50 pc) ((50, .aload_n 0, 1, 0, 0, (0), (0), [], 0)) ((49, .iaload, 1, 0, 0, (0), (0), [], 0))) ((47, .iload 4, 2, 4, 0, (0), (0), [], 0)))) (cond (Nat.ble 41 pc) (cond (Nat.ble 43 pc) (cond (Nat.ble 44 pc) ((44, .getfield 73, 3, 12, 17, (0), (0), [], 1281)) ((43, .aload_n 0, 1, 0, 0, (0), (0), [], 0))) ((41, .istore 4, 2, 4, 0, (0), (0), [], 0))) (cond (Nat.ble 39 pc) (cond (Nat.ble 40 pc) ((40, .iadd, 1, 0, 0, (0), (0), [], 0)) ((39, .iload_n 2, 1, 2, 0, (0), (0), [], 0))) ((38, .imul, 1, 0, 0, (0), (0), [], 0)))))) (cond (Nat.ble 20 pc) (cond (Nat.ble 28 pc) (cond (Nat.ble 32 pc) (cond (Nat.ble 36 pc) (cond (Nat.ble 37 pc) ((37, .iaload, 1, 0, 0, (0), (0), [], 0)) ((36, .iload_n 1, 1, 1, 0, (0), (0), [], 0))) (cond (Nat.ble 33 pc) ((33, .getfield 82, 3, 12, 9, (0), (0), [], 1273)) ((32, .aload_n 0, 1, 0, 0, (0), (0), [], 0)))) (cond (Nat.ble 29 pc) (cond (Nat.ble 30 pc) ((30, .bipush 6, 2, 0, 0, (6), (0), [], 0)) ((29, .istore_n 3, 1, 3, 0, (0), (0), [], 0))) ((28, .iadd, 1, 0, 0, (0), (0), [], 0)))) (cond (Nat.ble 25 pc) (cond (Nat.ble 26 pc) (cond (Nat.ble 27 pc) ((27, .iload_n 2, 1, 2, 0, (0), (0), [], 0)) ((26, .iadd, 1, 0, 0, (0), (0), [], 0))) ((25, .imul, 1, 0, 0, (0), (0), [], 0))) (cond (Nat.ble 22 pc) (cond (Nat.ble 24 pc) ((24, .iload_n 1, 1, 1, 0, (0), (0), [], 0)) ((22, .bipush 6, 2, 0, 0, (6), (0), [], 0))) ((20, .bipush 36, 2, 0, 0, (36), (0), [], 0))))) (cond (Nat.ble 10 pc) (cond (Nat.ble 13 pc) (cond (Nat.ble 14 pc) (cond (Nat.ble 17 pc) ((17, .if_icmp .ge 65, 3, 82, 0, (0), (0), [], 0)) ((14, .getfield 1, 3, 12, 1, (0), (0), [], 1265))) ((13, .aload_n 0, 1, 0, 0, (0), (0), [], 0))) (cond (Nat.ble 11 pc) (cond (Nat.ble 12 pc) ((12, .iload_n 2, 1, 2, 0, (0), (0), [], 0)) ((11, .istore_n 2, 1, 2, 0, (0), (0), [], 0))) ((10, .iconst 0, 1, 0, 0, (0), (0), [], 0)))) (cond (Nat.ble 5 pc) (cond (Nat.ble 6 pc) (cond (Nat.ble 7 pc) ((7, .invokevirtual 85, 3, 139, 2, (0), (0), [], 1178)) ((6, .iaload, 1, 0, 0, (0), (0), [], 0))) ((5, .iload_n 1, 1, 1, 0, (0), (0), [], 0))) (cond (Nat.ble 1 pc) (cond (Nat.ble 2 pc) ((2, .getfield 82, 3, 12, 9, (0), (0), [], 1273)) ((1, .aload_n 0, 1, 0, 0, (0), (0), [], 0))) ((0, .aload_n 0, 1, 0, 0, (0), (0), [], 0))))))
def pg_139 (pc : Nat) : RI := cond (Nat.ble 21 pc) (cond (Nat.ble 31 pc) (cond (Nat.ble 36 pc) (cond (Nat.ble 40 pc) (cond (Nat.ble 43 pc) ((43, .return_, 1, 0, 0, (0), (0), [], 0)) ((40, .goto (-25), 3, 15, 0, (0), (0), [], 0))) (cond (Nat.ble 37 pc) ((37, .iinc 2 1, 3, 2, 0, (1), (0), [], 0)) ((36, .iastore, 1, 0, 0, (0), (0), [], 0)))) (cond (Nat.ble 32 pc) (cond (Nat.ble 33 pc) ((33, .invokevirtual 43, 3, 123, 3, (0), (0), [], 1108)) ((32, .iload_n 2, 1, 2, 0, (0), (0), [], 0))) ((31, .iload_n 1, 1, 1, 0, (0), (0), [], 0)))) (cond (Nat.ble 27 pc) (cond (Nat.ble 29 pc) (cond (Nat.ble 30 pc) ((30, .aload_n 0, 1, 0, 0, (0), (0), [], 0)) ((29, .iadd, 1, 0, 0, (0), (0), [], 0))) (cond (Nat.ble 28 pc) ((28, .iload_n 2, 1, 2, 0, (0), (0), [], 0)) ((27, .imul, 1, 0, 0, (0), (0), [], 0)))) (cond (Nat.ble 24 pc) (cond (Nat.ble 26 pc) ((26, .iload_n 1, 1, 1, 0, (0), (0), [], 0)) ((24, .bipush 28, 2, 0, 0, (28), (0), [], 0))) ((21, .getfield 79, 3, 12, 18, (0), (0), [], 1282))))) (cond (Nat.ble 12 pc) (cond (Nat.ble 15 pc) (cond (Nat.ble 17 pc) (cond (Nat.ble 20 pc) ((20, .aload_n 0, 1, 0, 0, (0), (0), [], 0)) ((17, .if_icmp .ge 26, 3, 43, 0, (0), (0), [], 0))) (cond (Nat.ble 16 pc) ((16, .iconst 4, 1, 0, 0, (4), (0), [], 0)) ((15, .iload_n 2, 1, 2, 0, (0), (0), [], 0)))) (cond (Nat.ble 13 pc) (cond (Nat.ble 14 pc) ((14, .istore_n 2, 1, 2, 0, (0), (0), [], 0)) ((13, .iconst 0, 1, 0, 0, (0), (0), [], 0))) ((12, .iastore, 1, 0, 0, (0), (0), [], 0)))) (cond (Nat.ble 6 pc) (cond (Nat.ble 8 pc) (cond (Nat.ble 9 pc) ((9, .getfield 76, 3, 12, 0, (0), (0), [], 1264)) ((8, .aload_n 0, 1, 0, 0, (0), (0), [], 0))) (cond (Nat.ble 7 pc) ((7, .imul, 1, 0, 0, (0), (0), [], 0)) ((6, .iload_n 1, 1, 1, 0, (0), (0), [], 0)))) (cond (Nat.ble 1 pc) (cond (Nat.ble 4 pc) ((4, .bipush 7, 2, 0, 0, (7), (0), [], 0)) ((1, .getfield 73, 3, 12, 17, (0), (0), [], 1281))) ((0, .aload_n 0, 1, 0, 0, (0), (0), [], 0)))))
def pg_140 (pc : Nat) : RI := cond (Nat.ble 30 pc) (cond (Nat.ble 44 pc) (cond (Nat.ble 51 pc) (cond (Nat.ble 54 pc) (cond (Nat.ble 57 pc) (cond (Nat.ble 60 pc) ((60, .return_, 1, 0, 0, (0), (0), [], 0)) ((57, .goto (-28), 3, 29, 0, (0), (0), [], 0))) ((54, .iinc 3 1, 3, 3, 0, (1), (0), [], 0))) (cond (Nat.ble 52 pc) (cond (Nat.ble 53 pc) ((53, .iastore, 1, 0, 0, (0), (0), [], 0)) ((52, .iaload, 1, 0, 0, (0), (0), [], 0))) ((51, .iadd, 1, 0, 0, (0), (0), [], 0)))) (cond (Nat.ble 48 pc) (cond (Nat.ble 49 pc) (cond (Nat.ble 50 pc) ((50, .iload_n 3, 1, 3, 0, (0), (0), [], 0)) ((49, .imul, 1, 0, 0, (0), (0), [], 0))) ((48, .iload_n 2, 1, 2, 0, (0), (0), [], 0))) (cond (Nat.ble 47 pc) ((47, .iconst 4, 1, 0, 0, (4), (0), [], 0)) ((44, .getfield 79, 3, 12, 18, (0), (0), [], 1282))))) (cond (Nat.ble 39 pc) (cond (Nat.ble 41 pc) (cond (Nat.ble 42 pc) (cond (Nat.ble 43 pc) ((43, .aload_n 0, 1, 0, 0, (0), (0), [], 0)) ((42, .iadd, 1, 0, 0, (0), (0), [], 0))) ((41, .iload_n 3, 1, 3, 0, (0), (0), [], 0))) (cond (Nat.ble 40 pc) ((40, .imul, 1, 0, 0, (0), (0), [], 0)) ((39, .iload_n 1, 1, 1, 0, (0), (0), [], 0)))) (cond (Nat.ble 34 pc) (cond (Nat.ble 35 pc) (cond (Nat.ble 38 pc) ((38, .iconst 4, 1, 0, 0, (4), (0), [], 0)) ((35, .getfield 79, 3, 12, 18, (0), (0), [], 1282))) ((34, .aload_n 0, 1, 0, 0, (0), (0), [], 0))) (cond (Nat.ble 31 pc) ((31, .if_icmp .ge 29, 3, 60, 0, (0), (0), [], 0)) ((30, .iconst 4, 1, 0, 0, (4), (0), [], 0)))))) (cond (Nat.ble 16 pc) (cond (Nat.ble 25 pc) (cond (Nat.ble 27 pc) (cond (Nat.ble 28 pc) (cond (Nat.ble 29 pc) ((29, .iload_n 3, 1, 3, 0, (0), (0), [], 0)) ((28, .istore_n 3, 1, 3, 0, (0), (0), [], 0))) ((27, .iconst 0, 1, 0, 0, (0), (0), [], 0))) (cond (Nat.ble 26 pc) ((26, .iastore, 1, 0, 0, (0), (0), [], 0)) ((25, .iaload, 1, 0, 0, (0), (0), [], 0)))) (cond (Nat.ble 20 pc) (cond (Nat.ble 21 pc) (cond (Nat.ble 24 pc) ((24, .iload_n 2, 1, 2, 0, (0), (0), [], 0)) ((21, .getfield 73, 3, 12, 17, (0), (0), [], 1281))) ((20, .aload_n 0, 1, 0, 0, (0), (0), [], 0))) (cond (Nat.ble 19 pc) ((19, .iload_n 1, 1, 1, 0, (0), (0), [], 0)) ((16, .getfield 73, 3, 12, 17, (0), (0), [], 1281))))) (cond (Nat.ble 7 pc) (cond (Nat.ble 11 pc) (cond (Nat.ble 12 pc) (cond (Nat.ble 15 pc) ((15, .aload_n 0, 1, 0, 0, (0), (0), [], 0)) ((12, .if_icmp .le 48, 3, 60, 0, (0), (0), [], 0))) ((11, .iaload, 1, 0, 0, (0), (0), [], 0))) (cond (Nat.ble 10 pc) ((10, .iload_n 1, 1, 1, 0, (0), (0), [], 0)) ((7, .getfield 73, 3, 12, 17, (0), (0), [], 1281)))) (cond (Nat.ble 4 pc) (cond (Nat.ble 5 pc) (cond (Nat.ble 6 pc) ((6, .aload_n 0, 1, 0, 0, (0), (0), [], 0)) ((5, .iaload, 1, 0, 0, (0), (0), [], 0))) ((4, .iload_n 2, 1, 2, 0, (0), (0), [], 0))) (cond (Nat.ble 1 pc) ((1, .getfield 73, 3, 12, 17, (0), (0), [], 1281)) ((0, .aload_n 0, 1, 0, 0, (0), (0), [], 0))))))
def pg_141 (pc : Nat) : RI := cond (Nat.ble 47 pc) (cond (Nat.ble 71 pc) (cond (Nat.ble 82 pc) (cond (Nat.ble 91 pc) (cond (Nat.ble 95 pc) (cond (Nat.ble 98 pc) ((98, .ireturn, 1, 0, 0, (0), (0), [], 0)) ((95, .getfield 76, 3, 12, 0, (0), (0), [], 1264))) (cond (Nat.ble 94 pc) ((94, .aload_n 0, 1, 0, 0, (0), (0), [], 0)) ((91, .goto (-59), 3, 32, 0, (0), (0), [], 0)))) (cond (Nat.ble 85 pc) (cond (Nat.ble 88 pc) ((88, .iinc 2 1, 3, 2, 0, (1), (0), [], 0)) ((85, .goto (-36), 3, 49, 0, (0), (0), [], 0))) ((82, .iinc 3 1, 3, 3, 0, (1), (0), [], 0)))) (cond (Nat.ble 76 pc) (cond (Nat.ble 78 pc) (cond (Nat.ble 79 pc) ((79, .invokevirtual 124, 3, 138, 2, (0), (0), [], 1174)) ((78, .iload_n 3, 1, 3, 0, (0), (0), [], 0))) (cond (Nat.ble 77 pc) ((77, .aload_n 0, 1, 0, 0, (0), (0), [], 0)) ((76, .iastore, 1, 0, 0, (0), (0), [], 0)))) (cond (Nat.ble 74 pc) (cond (Nat.ble 75 pc) ((75, .iconst (-1), 1, 0, 0, (-1), (0), [], 0)) ((74, .iload_n 3, 1, 3, 0, (0), (0), [], 0))) ((71, .getfield 100, 3, 12, 10, (0), (0), [], 1274))))) (cond (Nat.ble 58 pc) (cond (Nat.ble 63 pc) (cond (Nat.ble 67 pc) (cond (Nat.ble 70 pc) ((70, .aload_n 0, 1, 0, 0, (0), (0), [], 0)) ((67, .if_icmp .ne 15, 3, 82, 0, (0), (0), [], 0))) (cond (Nat.ble 64 pc) ((64, .getfield 76, 3, 12, 0, (0), (0), [], 1264)) ((63, .aload_n 0, 1, 0, 0, (0), (0), [], 0)))) (cond (Nat.ble 61 pc) (cond (Nat.ble 62 pc) ((62, .iaload, 1, 0, 0, (0), (0), [], 0)) ((61, .iload_n 3, 1, 3, 0, (0), (0), [], 0))) ((58, .getfield 100, 3, 12, 10, (0), (0), [], 1274)))) (cond (Nat.ble 50 pc) (cond (Nat.ble 54 pc) (cond (Nat.ble 57 pc) ((57, .aload_n 0, 1, 0, 0, (0), (0), [], 0)) ((54, .if_icmp .ge 34, 3, 88, 0, (0), (0), [], 0))) (cond (Nat.ble 51 pc) ((51, .getfield 7, 3, 12, 8, (0), (0), [], 1272)) ((50, .aload_n 0, 1, 0, 0, (0), (0), [], 0)))) (cond (Nat.ble 48 pc) (cond (Nat.ble 49 pc) ((49, .iload_n 3, 1, 3, 0, (0), (0), [], 0)) ((48, .istore_n 3, 1, 3, 0, (0), (0), [], 0))) ((47, .iconst 0, 1, 0, 0, (0), (0), [], 0)))))) (cond (Nat.ble 24 pc) (cond (Nat.ble 34 pc) (cond (Nat.ble 39 pc) (cond (Nat.ble 43 pc) (cond (Nat.ble 44 pc) ((44, .putfield 76, 3, 12, 0, (0), (0), [], 1264)) ((43, .iadd, 1, 0, 0, (0), (0), [], 0))) (cond (Nat.ble 42 pc) ((42, .iconst 1, 1, 0, 0, (1), (0), [], 0)) ((39, .getfield 76, 3, 12, 0, (0), (0), [], 1264)))) (cond (Nat.ble 37 pc) (cond (Nat.ble 38 pc) ((38, .dup, 1, 0, 0, (0), (0), [], 0)) ((37, .aload_n 0, 1, 0, 0, (0), (0), [], 0))) ((34, .if_icmp .ge 60, 3, 94, 0, (0), (0), [], 0)))) (cond (Nat.ble 30 pc) (cond (Nat.ble 32 pc) (cond (Nat.ble 33 pc) ((33, .iload_n 1, 1, 1, 0, (0), (0), [], 0)) ((32, .iload_n 2, 1, 2, 0, (0), (0), [], 0))) (cond (Nat.ble 31 pc) ((31, .istore_n 2, 1, 2, 0, (0), (0), [], 0)) ((30, .iconst 0, 1, 0, 0, (0), (0), [], 0)))) (cond (Nat.ble 27 pc) (cond (Nat.ble 29 pc) ((29, .ireturn, 1, 0, 0, (0), (0), [], 0)) ((27, .bipush (-4), 2, 0, 0, (-4), (0), [], 0))) ((24, .if_icmp .le 6, 3, 30, 0, (0), (0), [], 0))))) (cond (Nat.ble 12 pc) (cond (Nat.ble 16 pc) (cond (Nat.ble 20 pc) (cond (Nat.ble 21 pc) ((21, .sipush 9999, 3, 0, 0, (9999), (0), [], 0)) ((20, .iadd, 1, 0, 0, (0), (0), [], 0))) (cond (Nat.ble 19 pc) ((19, .iload_n 1, 1, 1, 0, (0), (0), [], 0)) ((16, .getfield 76, 3, 12, 0, (0), (0), [], 1264)))) (cond (Nat.ble 14 pc) (cond (Nat.ble 15 pc) ((15, .aload_n 0, 1, 0, 0, (0), (0), [], 0)) ((14, .ireturn, 1, 0, 0, (0), (0), [], 0))) ((12, .bipush (-2), 2, 0, 0, (-2), (0), [], 0)))) (cond (Nat.ble 3 pc) (cond (Nat.ble 6 pc) (cond (Nat.ble 9 pc) ((9, .ifCond .ne 6, 3, 15, 0, (0), (0), [], 0)) ((6, .invokestatic 12, 3, 119, 3, (0), (0), [], 1091))) ((3, .ldc2_w 127, 3, 0, 0, (0), (400), [], 1190))) (cond (Nat.ble 1 pc) (cond (Nat.ble 2 pc) ((2, .lconst 1, 1, 0, 0, (0), (1), [], 0)) ((1, .i2l, 1, 0, 0, (0), (0), [], 0))) ((0, .iload_n 1, 1, 1, 0, (0), (0), [], 0))))))
def pg_142 (pc : Nat) : RI := cond (Nat.ble 77 pc) (cond (Nat.ble 120 pc) (cond (Nat.ble 141 pc) (cond (Nat.ble 151 pc) (cond (Nat.ble 156 pc) (cond (Nat.ble 162 pc) (cond (Nat.ble 163 pc) ((163, .ireturn, 1, 0, 0, (0), (0), [], 0)) ((162, .iconst 1, 1, 0, 0, (1), (0), [], 0))) (cond (Nat.ble 159 pc) ((159, .goto (-72), 3, 87, 0, (0), (0), [], 0)) ((156, .iinc 2 1, 3, 2, 0, (1), (0), [], 0)))) (cond (Nat.ble 154 pc) (cond (Nat.ble 155 pc) ((155, .iastore, 1, 0, 0, (0), (0), [], 0)) ((154, .iload_n 1, 1, 1, 0, (0), (0), [], 0))) ((151, .goto 4, 3, 155, 0, (0), (0), [], 0)))) (cond (Nat.ble 146 pc) (cond (Nat.ble 147 pc) (cond (Nat.ble 150 pc) ((150, .iconst (-1), 1, 0, 0, (-1), (0), [], 0)) ((147, .if_icmp .ne 7, 3, 154, 0, (0), (0), [], 0))) ((146, .iconst 2, 1, 0, 0, (2), (0), [], 0))) (cond (Nat.ble 144 pc) (cond (Nat.ble 145 pc) ((145, .iaload, 1, 0, 0, (0), (0), [], 0)) ((144, .iload_n 2, 1, 2, 0, (0), (0), [], 0))) ((141, .getfield 138, 3, 12, 20, (0), (0), [], 1284))))) (cond (Nat.ble 130 pc) (cond (Nat.ble 135 pc) (cond (Nat.ble 139 pc) (cond (Nat.ble 140 pc) ((140, .aload_n 0, 1, 0, 0, (0), (0), [], 0)) ((139, .iload_n 2, 1, 2, 0, (0), (0), [], 0))) (cond (Nat.ble 136 pc) ((136, .getfield 132, 3, 12, 21, (0), (0), [], 1285)) ((135, .aload_n 0, 1, 0, 0, (0), (0), [], 0)))) (cond (Nat.ble 133 pc) (cond (Nat.ble 134 pc) ((134, .bastore, 1, 0, 0, (0), (0), [], 0)) ((133, .iconst 0, 1, 0, 0, (0), (0), [], 0))) ((130, .goto 4, 3, 134, 0, (0), (0), [], 0)))) (cond (Nat.ble 125 pc) (cond (Nat.ble 126 pc) (cond (Nat.ble 129 pc) ((129, .iconst 1, 1, 0, 0, (1), (0), [], 0)) ((126, .if_icmp .eq 7, 3, 133, 0, (0), (0), [], 0))) ((125, .iconst 2, 1, 0, 0, (2), (0), [], 0))) (cond (Nat.ble 123 pc) (cond (Nat.ble 124 pc) ((124, .iaload, 1, 0, 0, (0), (0), [], 0)) ((123, .iload_n 2, 1, 2, 0, (0), (0), [], 0))) ((120, .getfield 138, 3, 12, 20, (0), (0), [], 1284)))))) (cond (Nat.ble 99 pc) (cond (Nat.ble 109 pc) (cond (Nat.ble 114 pc) (cond (Nat.ble 118 pc) (cond (Nat.ble 119 pc) ((119, .aload_n 0, 1, 0, 0, (0), (0), [], 0)) ((118, .iload_n 2, 1, 2, 0, (0), (0), [], 0))) (cond (Nat.ble 115 pc) ((115, .getfield 135, 3, 12, 25, (0), (0), [], 1289)) ((114, .aload_n 0, 1, 0, 0, (0), (0), [], 0)))) (cond (Nat.ble 110 pc) (cond (Nat.ble 111 pc) ((111, .ifCond .ne 45, 3, 156, 0, (0), (0), [], 0)) ((110, .baload, 1, 0, 0, (0), (0), [], 0))) ((109, .iload_n 2, 1, 2, 0, (0), (0), [], 0)))) (cond (Nat.ble 102 pc) (cond (Nat.ble 105 pc) (cond (Nat.ble 106 pc) ((106, .getfield 135, 3, 12, 25, (0), (0), [], 1289)) ((105, .aload_n 0, 1, 0, 0, (0), (0), [], 0))) ((102, .if_icmp .ne 54, 3, 156, 0, (0), (0), [], 0))) (cond (Nat.ble 100 pc) (cond (Nat.ble 101 pc) ((101, .iload_n 1, 1, 1, 0, (0), (0), [], 0)) ((100, .iaload, 1, 0, 0, (0), (0), [], 0))) ((99, .iload_n 2, 1, 2, 0, (0), (0), [], 0))))) (cond (Nat.ble 87 pc) (cond (Nat.ble 92 pc) (cond (Nat.ble 95 pc) (cond (Nat.ble 96 pc) ((96, .getfield 132, 3, 12, 21, (0), (0), [], 1285)) ((95, .aload_n 0, 1, 0, 0, (0), (0), [], 0))) ((92, .if_icmp .ge 70, 3, 162, 0, (0), (0), [], 0))) (cond (Nat.ble 88 pc) (cond (Nat.ble 89 pc) ((89, .getfield 129, 3, 12, 19, (0), (0), [], 1283)) ((88, .aload_n 0, 1, 0, 0, (0), (0), [], 0))) ((87, .iload_n 2, 1, 2, 0, (0), (0), [], 0)))) (cond (Nat.ble 82 pc) (cond (Nat.ble 85 pc) (cond (Nat.ble 86 pc) ((86, .istore_n 2, 1, 2, 0, (0), (0), [], 0)) ((85, .iconst 0, 1, 0, 0, (0), (0), [], 0))) ((82, .goto (-19), 3, 63, 0, (0), (0), [], 0))) (cond (Nat.ble 78 pc) (cond (Nat.ble 79 pc) ((79, .iinc 2 1, 3, 2, 0, (1), (0), [], 0)) ((78, .iastore, 1, 0, 0, (0), (0), [], 0))) ((77, .iconst 0, 1, 0, 0, (0), (0), [], 0))))))) (cond (Nat.ble 41 pc) (cond (Nat.ble 60 pc) (cond (Nat.ble 68 pc) (cond (Nat.ble 73 pc) (cond (Nat.ble 75 pc) (cond (Nat.ble 76 pc) ((76, .iadd, 1, 0, 0, (0), (0), [], 0)) ((75, .iload_n 2, 1, 2, 0, (0), (0), [], 0))) (cond (Nat.ble 74 pc) ((74, .imul, 1, 0, 0, (0), (0), [], 0)) ((73, .iload_n 1, 1, 1, 0, (0), (0), [], 0)))) (cond (Nat.ble 69 pc) (cond (Nat.ble 72 pc) ((72, .iconst 4, 1, 0, 0, (4), (0), [], 0)) ((69, .getfield 93, 3, 12, 16, (0), (0), [], 1280))) ((68, .aload_n 0, 1, 0, 0, (0), (0), [], 0)))) (cond (Nat.ble 63 pc) (cond (Nat.ble 64 pc) (cond (Nat.ble 65 pc) ((65, .if_icmp .ge 20, 3, 85, 0, (0), (0), [], 0)) ((64, .iconst 4, 1, 0, 0, (4), (0), [], 0))) ((63, .iload_n 2, 1, 2, 0, (0), (0), [], 0))) (cond (Nat.ble 61 pc) (cond (Nat.ble 62 pc) ((62, .istore_n 2, 1, 2, 0, (0), (0), [], 0)) ((61, .iconst 0, 1, 0, 0, (0), (0), [], 0))) ((60, .iastore, 1, 0, 0, (0), (0), [], 0))))) (cond (Nat.ble 51 pc) (cond (Nat.ble 54 pc) (cond (Nat.ble 58 pc) (cond (Nat.ble 59 pc) ((59, .iconst (-1), 1, 0, 0, (-1), (0), [], 0)) ((58, .iload_n 1, 1, 1, 0, (0), (0), [], 0))) (cond (Nat.ble 55 pc) ((55, .getfield 111, 3, 12, 13, (0), (0), [], 1277)) ((54, .aload_n 0, 1, 0, 0, (0), (0), [], 0)))) (cond (Nat.ble 52 pc) (cond (Nat.ble 53 pc) ((53, .iastore, 1, 0, 0, (0), (0), [], 0)) ((52, .iconst 0, 1, 0, 0, (0), (0), [], 0))) ((51, .iload_n 1, 1, 1, 0, (0), (0), [], 0)))) (cond (Nat.ble 46 pc) (cond (Nat.ble 47 pc) (cond (Nat.ble 48 pc) ((48, .getfield 108, 3, 12, 12, (0), (0), [], 1276)) ((47, .aload_n 0, 1, 0, 0, (0), (0), [], 0))) ((46, .iastore, 1, 0, 0, (0), (0), [], 0))) (cond (Nat.ble 44 pc) (cond (Nat.ble 45 pc) ((45, .iconst (-1), 1, 0, 0, (-1), (0), [], 0)) ((44, .iload_n 1, 1, 1, 0, (0), (0), [], 0))) ((41, .getfield 100, 3, 12, 10, (0), (0), [], 1274)))))) (cond (Nat.ble 21 pc) (cond (Nat.ble 32 pc) (cond (Nat.ble 37 pc) (cond (Nat.ble 39 pc) (cond (Nat.ble 40 pc) ((40, .aload_n 0, 1, 0, 0, (0), (0), [], 0)) ((39, .bastore, 1, 0, 0, (0), (0), [], 0))) (cond (Nat.ble 38 pc) ((38, .iconst 1, 1, 0, 0, (1), (0), [], 0)) ((37, .iload_n 1, 1, 1, 0, (0), (0), [], 0)))) (cond (Nat.ble 33 pc) (cond (Nat.ble 34 pc) ((34, .getfield 96, 3, 12, 15, (0), (0), [], 1279)) ((33, .aload_n 0, 1, 0, 0, (0), (0), [], 0))) ((32, .ireturn, 1, 0, 0, (0), (0), [], 0)))) (cond (Nat.ble 26 pc) (cond (Nat.ble 27 pc) (cond (Nat.ble 30 pc) ((30, .bipush (-3), 2, 0, 0, (-3), (0), [], 0)) ((27, .if_icmp .ne 6, 3, 33, 0, (0), (0), [], 0))) ((26, .iconst (-1), 1, 0, 0, (-1), (0), [], 0))) (cond (Nat.ble 24 pc) (cond (Nat.ble 25 pc) ((25, .iaload, 1, 0, 0, (0), (0), [], 0)) ((24, .iload_n 1, 1, 1, 0, (0), (0), [], 0))) ((21, .getfield 100, 3, 12, 10, (0), (0), [], 1274))))) (cond (Nat.ble 11 pc) (cond (Nat.ble 16 pc) (cond (Nat.ble 17 pc) (cond (Nat.ble 20 pc) ((20, .aload_n 0, 1, 0, 0, (0), (0), [], 0)) ((17, .ifCond .ne 13, 3, 30, 0, (0), (0), [], 0))) ((16, .baload, 1, 0, 0, (0), (0), [], 0))) (cond (Nat.ble 12 pc) (cond (Nat.ble 15 pc) ((15, .iload_n 1, 1, 1, 0, (0), (0), [], 0)) ((12, .getfield 96, 3, 12, 15, (0), (0), [], 1279))) ((11, .aload_n 0, 1, 0, 0, (0), (0), [], 0)))) (cond (Nat.ble 5 pc) (cond (Nat.ble 8 pc) (cond (Nat.ble 10 pc) ((10, .ireturn, 1, 0, 0, (0), (0), [], 0)) ((8, .bipush (-2), 2, 0, 0, (-2), (0), [], 0))) ((5, .ifCond .ne 6, 3, 11, 0, (0), (0), [], 0))) (cond (Nat.ble 1 pc) (cond (Nat.ble 2 pc) ((2, .invokevirtual 114, 3, 131, 2, (0), (0), [], 1146)) ((1, .iload_n 1, 1, 1, 0, (0), (0), [], 0))) ((0, .aload_n 0, 1, 0, 0, (0), (0), [], 0)))))))
def pg_143 (pc : Nat) : RI := cond (Nat.ble 98 pc) (cond (Nat.ble 139 pc) (cond (Nat.ble 161 pc) (cond (Nat.ble 174 pc) (cond (Nat.ble 178 pc) (cond (Nat.ble 181 pc) (cond (Nat.ble 182 pc) ((182, .ireturn, 1, 0, 0, (0), (0), [], 0)) ((181, .iaload, 1, 0, 0, (0), (0), [], 0))) (cond (Nat.ble 180 pc) ((180, .iadd, 1, 0, 0, (0), (0), [], 0)) ((178, .iload 4, 2, 4, 0, (0), (0), [], 0)))) (cond (Nat.ble 175 pc) (cond (Nat.ble 177 pc) ((177, .imul, 1, 0, 0, (0), (0), [], 0)) ((175, .iload 6, 2, 6, 0, (0), (0), [], 0))) ((174, .iconst 4, 1, 0, 0, (4), (0), [], 0)))) (cond (Nat.ble 167 pc) (cond (Nat.ble 170 pc) (cond (Nat.ble 171 pc) ((171, .getfield 79, 3, 12, 18, (0), (0), [], 1282)) ((170, .aload_n 0, 1, 0, 0, (0), (0), [], 0))) ((167, .goto 15, 3, 182, 0, (0), (0), [], 0))) (cond (Nat.ble 164 pc) (cond (Nat.ble 166 pc) ((166, .iaload, 1, 0, 0, (0), (0), [], 0)) ((164, .iload 6, 2, 6, 0, (0), (0), [], 0))) ((161, .getfield 73, 3, 12, 17, (0), (0), [], 1281))))) (cond (Nat.ble 149 pc) (cond (Nat.ble 154 pc) (cond (Nat.ble 157 pc) (cond (Nat.ble 160 pc) ((160, .aload_n 0, 1, 0, 0, (0), (0), [], 0)) ((157, .if_icmp .ne 13, 3, 170, 0, (0), (0), [], 0))) (cond (Nat.ble 156 pc) ((156, .iconst (-1), 1, 0, 0, (-1), (0), [], 0)) ((154, .iload 4, 2, 4, 0, (0), (0), [], 0)))) (cond (Nat.ble 152 pc) (cond (Nat.ble 153 pc) ((153, .ireturn, 1, 0, 0, (0), (0), [], 0)) ((152, .iconst (-1), 1, 0, 0, (-1), (0), [], 0))) ((149, .ifCond .ge 5, 3, 154, 0, (0), (0), [], 0)))) (cond (Nat.ble 143 pc) (cond (Nat.ble 146 pc) (cond (Nat.ble 148 pc) ((148, .iaload, 1, 0, 0, (0), (0), [], 0)) ((146, .iload 6, 2, 6, 0, (0), (0), [], 0))) ((143, .getfield 73, 3, 12, 17, (0), (0), [], 1281))) (cond (Nat.ble 140 pc) (cond (Nat.ble 142 pc) ((142, .aload_n 0, 1, 0, 0, (0), (0), [], 0)) ((140, .istore 6, 2, 6, 0, (0), (0), [], 0))) ((139, .iadd, 1, 0, 0, (0), (0), [], 0)))))) (cond (Nat.ble 119 pc) (cond (Nat.ble 128 pc) (cond (Nat.ble 135 pc) (cond (Nat.ble 137 pc) (cond (Nat.ble 138 pc) ((138, .iload_n 3, 1, 3, 0, (0), (0), [], 0)) ((137, .iadd, 1, 0, 0, (0), (0), [], 0))) (cond (Nat.ble 136 pc) ((136, .imul, 1, 0, 0, (0), (0), [], 0)) ((135, .iload_n 2, 1, 2, 0, (0), (0), [], 0)))) (cond (Nat.ble 131 pc) (cond (Nat.ble 133 pc) ((133, .bipush 6, 2, 0, 0, (6), (0), [], 0)) ((131, .bipush 36, 2, 0, 0, (36), (0), [], 0))) ((128, .goto 12, 3, 140, 0, (0), (0), [], 0)))) (cond (Nat.ble 125 pc) (cond (Nat.ble 126 pc) (cond (Nat.ble 127 pc) ((127, .iadd, 1, 0, 0, (0), (0), [], 0)) ((126, .iload_n 3, 1, 3, 0, (0), (0), [], 0))) ((125, .imul, 1, 0, 0, (0), (0), [], 0))) (cond (Nat.ble 122 pc) (cond (Nat.ble 124 pc) ((124, .iload_n 2, 1, 2, 0, (0), (0), [], 0)) ((122, .bipush 6, 2, 0, 0, (6), (0), [], 0))) ((119, .if_icmp .ne 12, 3, 131, 0, (0), (0), [], 0))))) (cond (Nat.ble 110 pc) (cond (Nat.ble 116 pc) (cond (Nat.ble 117 pc) (cond (Nat.ble 118 pc) ((118, .iconst 1, 1, 0, 0, (1), (0), [], 0)) ((117, .iload_n 1, 1, 1, 0, (0), (0), [], 0))) ((116, .ireturn, 1, 0, 0, (0), (0), [], 0))) (cond (Nat.ble 111 pc) (cond (Nat.ble 113 pc) ((113, .invokevirtual 43, 3, 123, 3, (0), (0), [], 1108)) ((111, .iload 4, 2, 4, 0, (0), (0), [], 0))) ((110, .iload_n 3, 1, 3, 0, (0), (0), [], 0)))) (cond (Nat.ble 103 pc) (cond (Nat.ble 106 pc) (cond (Nat.ble 109 pc) ((109, .aload_n 0, 1, 0, 0, (0), (0), [], 0)) ((106, .goto 10, 3, 116, 0, (0), (0), [], 0))) ((103, .getfield 76, 3, 12, 0, (0), (0), [], 1264))) (cond (Nat.ble 99 pc) (cond (Nat.ble 102 pc) ((102, .aload_n 0, 1, 0, 0, (0), (0), [], 0)) ((99, .if_icmp .ne 10, 3, 109, 0, (0), (0), [], 0))) ((98, .iconst (-1), 1, 0, 0, (-1), (0), [], 0))))))) (cond (Nat.ble 50 pc) (cond (Nat.ble 76 pc) (cond (Nat.ble 86 pc) (cond (Nat.ble 91 pc) (cond (Nat.ble 93 pc) (cond (Nat.ble 96 pc) ((96, .iload 4, 2, 4, 0, (0), (0), [], 0)) ((93, .if_icmp .ne 24, 3, 117, 0, (0), (0), [], 0))) (cond (Nat.ble 92 pc) ((92, .iload_n 3, 1, 3, 0, (0), (0), [], 0)) ((91, .iload_n 2, 1, 2, 0, (0), (0), [], 0)))) (cond (Nat.ble 87 pc) (cond (Nat.ble 88 pc) ((88, .if_icmp .ne 29, 3, 117, 0, (0), (0), [], 0)) ((87, .iconst 1, 1, 0, 0, (1), (0), [], 0))) ((86, .iload_n 1, 1, 1, 0, (0), (0), [], 0)))) (cond (Nat.ble 81 pc) (cond (Nat.ble 84 pc) (cond (Nat.ble 85 pc) ((85, .ireturn, 1, 0, 0, (0), (0), [], 0)) ((84, .iconst (-1), 1, 0, 0, (-1), (0), [], 0))) ((81, .ifCond .eq 5, 3, 86, 0, (0), (0), [], 0))) (cond (Nat.ble 79 pc) (cond (Nat.ble 80 pc) ((80, .baload, 1, 0, 0, (0), (0), [], 0)) ((79, .iload_n 2, 1, 2, 0, (0), (0), [], 0))) ((76, .getfield 96, 3, 12, 15, (0), (0), [], 1279))))) (cond (Nat.ble 63 pc) (cond (Nat.ble 70 pc) (cond (Nat.ble 72 pc) (cond (Nat.ble 75 pc) ((75, .aload_n 0, 1, 0, 0, (0), (0), [], 0)) ((72, .ifCond .ne 14, 3, 86, 0, (0), (0), [], 0))) (cond (Nat.ble 71 pc) ((71, .iload_n 1, 1, 1, 0, (0), (0), [], 0)) ((70, .ireturn, 1, 0, 0, (0), (0), [], 0)))) (cond (Nat.ble 65 pc) (cond (Nat.ble 68 pc) ((68, .bipush (-2), 2, 0, 0, (-2), (0), [], 0)) ((65, .ifCond .ne 6, 3, 71, 0, (0), (0), [], 0))) ((63, .iload 5, 2, 5, 0, (0), (0), [], 0)))) (cond (Nat.ble 57 pc) (cond (Nat.ble 60 pc) (cond (Nat.ble 61 pc) ((61, .istore 5, 2, 5, 0, (0), (0), [], 0)) ((60, .iconst 0, 1, 0, 0, (0), (0), [], 0))) ((57, .goto 4, 3, 61, 0, (0), (0), [], 0))) (cond (Nat.ble 53 pc) (cond (Nat.ble 56 pc) ((56, .iconst 1, 1, 0, 0, (1), (0), [], 0)) ((53, .ifCond .eq 7, 3, 60, 0, (0), (0), [], 0))) ((50, .invokestatic 12, 3, 119, 3, (0), (0), [], 1091)))))) (cond (Nat.ble 22 pc) (cond (Nat.ble 34 pc) (cond (Nat.ble 41 pc) (cond (Nat.ble 44 pc) (cond (Nat.ble 47 pc) ((47, .ldc2_w 10, 3, 0, 0, (0), (3), [], 1106)) ((44, .ldc2_w 141, 3, 0, 0, (0), (-1), [], 1199))) (cond (Nat.ble 43 pc) ((43, .i2l, 1, 0, 0, (0), (0), [], 0)) ((41, .iload 4, 2, 4, 0, (0), (0), [], 0)))) (cond (Nat.ble 35 pc) (cond (Nat.ble 38 pc) ((38, .ifCond .eq 22, 3, 60, 0, (0), (0), [], 0)) ((35, .invokevirtual 34, 3, 121, 2, (0), (0), [], 1098))) ((34, .iload_n 3, 1, 3, 0, (0), (0), [], 0)))) (cond (Nat.ble 27 pc) (cond (Nat.ble 30 pc) (cond (Nat.ble 33 pc) ((33, .aload_n 0, 1, 0, 0, (0), (0), [], 0)) ((30, .ifCond .eq 30, 3, 60, 0, (0), (0), [], 0))) ((27, .invokevirtual 34, 3, 121, 2, (0), (0), [], 1098))) (cond (Nat.ble 25 pc) (cond (Nat.ble 26 pc) ((26, .iload_n 2, 1, 2, 0, (0), (0), [], 0)) ((25, .aload_n 0, 1, 0, 0, (0), (0), [], 0))) ((22, .goto 11, 3, 33, 0, (0), (0), [], 0))))) (cond (Nat.ble 10 pc) (cond (Nat.ble 15 pc) (cond (Nat.ble 16 pc) (cond (Nat.ble 19 pc) ((19, .ifCond .eq 41, 3, 60, 0, (0), (0), [], 0)) ((16, .invokevirtual 114, 3, 131, 2, (0), (0), [], 1146))) ((15, .iload_n 2, 1, 2, 0, (0), (0), [], 0))) (cond (Nat.ble 11 pc) (cond (Nat.ble 14 pc) ((14, .aload_n 0, 1, 0, 0, (0), (0), [], 0)) ((11, .ifCond .ne 14, 3, 25, 0, (0), (0), [], 0))) ((10, .iload_n 1, 1, 1, 0, (0), (0), [], 0)))) (cond (Nat.ble 3 pc) (cond (Nat.ble 4 pc) (cond (Nat.ble 7 pc) ((7, .ifCond .eq 53, 3, 60, 0, (0), (0), [], 0)) ((4, .invokestatic 12, 3, 119, 3, (0), (0), [], 1091))) ((3, .lconst 1, 1, 0, 0, (0), (1), [], 0))) (cond (Nat.ble 1 pc) (cond (Nat.ble 2 pc) ((2, .lconst 0, 1, 0, 0, (0), (0), [], 0)) ((1, .i2l, 1, 0, 0, (0), (0), [], 0))) ((0, .iload_n 1, 1, 1, 0, (0), (0), [], 0)))))))
def pg_144 (pc : Nat) : RI := cond (Nat.ble 117 pc) (cond (Nat.ble 170 pc) (cond (Nat.ble 197 pc) (cond (Nat.ble 209 pc) (cond (Nat.ble 215 pc) (cond (Nat.ble 219 pc) (cond (Nat.ble 220 pc) ((220, .ireturn, 1, 0, 0, (0), (0), [], 0)) ((219, .isub, 1, 0, 0, (0), (0), [], 0))) (cond (Nat.ble 218 pc) ((218, .iconst 1, 1, 0, 0, (1), (0), [], 0)) ((215, .getfield 129, 3, 12, 19, (0), (0), [], 1283)))) (cond (Nat.ble 211 pc) (cond (Nat.ble 214 pc) ((214, .aload_n 0, 1, 0, 0, (0), (0), [], 0)) ((211, .putfield 129, 3, 12, 19, (0), (0), [], 1283))) (cond (Nat.ble 210 pc) ((210, .iadd, 1, 0, 0, (0), (0), [], 0)) ((209, .iconst 1, 1, 0, 0, (1), (0), [], 0))))) (cond (Nat.ble 203 pc) (cond (Nat.ble 205 pc) (cond (Nat.ble 206 pc) ((206, .getfield 129, 3, 12, 19, (0), (0), [], 1283)) ((205, .dup, 1, 0, 0, (0), (0), [], 0))) (cond (Nat.ble 204 pc) ((204, .aload_n 0, 1, 0, 0, (0), (0), [], 0)) ((203, .iastore, 1, 0, 0, (0), (0), [], 0)))) (cond (Nat.ble 199 pc) (cond (Nat.ble 202 pc) ((202, .iconst 0, 1, 0, 0, (0), (0), [], 0)) ((199, .goto 4, 3, 203, 0, (0), (0), [], 0))) (cond (Nat.ble 198 pc) ((198, .iadd, 1, 0, 0, (0), (0), [], 0)) ((197, .idiv, 1, 0, 0, (0), (0), [], 0)))))) (cond (Nat.ble 184 pc) (cond (Nat.ble 190 pc) (cond (Nat.ble 194 pc) (cond (Nat.ble 195 pc) ((195, .bipush 10, 2, 0, 0, (10), (0), [], 0)) ((194, .iload_n 3, 1, 3, 0, (0), (0), [], 0))) (cond (Nat.ble 193 pc) ((193, .iload_n 3, 1, 3, 0, (0), (0), [], 0)) ((190, .if_icmp .ne 12, 3, 202, 0, (0), (0), [], 0)))) (cond (Nat.ble 188 pc) (cond (Nat.ble 189 pc) ((189, .iconst 5, 1, 0, 0, (5), (0), [], 0)) ((188, .iload_n 1, 1, 1, 0, (0), (0), [], 0))) (cond (Nat.ble 185 pc) ((185, .goto 18, 3, 203, 0, (0), (0), [], 0)) ((184, .iload_n 3, 1, 3, 0, (0), (0), [], 0))))) (cond (Nat.ble 176 pc) (cond (Nat.ble 180 pc) (cond (Nat.ble 181 pc) ((181, .if_icmp .ne 7, 3, 188, 0, (0), (0), [], 0)) ((180, .iconst 2, 1, 0, 0, (2), (0), [], 0))) (cond (Nat.ble 179 pc) ((179, .iload_n 1, 1, 1, 0, (0), (0), [], 0)) ((176, .getfield 129, 3, 12, 19, (0), (0), [], 1283)))) (cond (Nat.ble 172 pc) (cond (Nat.ble 175 pc) ((175, .aload_n 0, 1, 0, 0, (0), (0), [], 0)) ((172, .getfield 151, 3, 12, 24, (0), (0), [], 1288))) (cond (Nat.ble 171 pc) ((171, .aload_n 0, 1, 0, 0, (0), (0), [], 0)) ((170, .iastore, 1, 0, 0, (0), (0), [], 0))))))) (cond (Nat.ble 141 pc) (cond (Nat.ble 155 pc) (cond (Nat.ble 161 pc) (cond (Nat.ble 165 pc) (cond (Nat.ble 168 pc) ((168, .iload 4, 2, 4, 0, (0), (0), [], 0)) ((165, .getfield 129, 3, 12, 19, (0), (0), [], 1283))) (cond (Nat.ble 164 pc) ((164, .aload_n 0, 1, 0, 0, (0), (0), [], 0)) ((161, .getfield 148, 3, 12, 23, (0), (0), [], 1287)))) (cond (Nat.ble 159 pc) (cond (Nat.ble 160 pc) ((160, .aload_n 0, 1, 0, 0, (0), (0), [], 0)) ((159, .iastore, 1, 0, 0, (0), (0), [], 0))) (cond (Nat.ble 158 pc) ((158, .iload_n 3, 1, 3, 0, (0), (0), [], 0)) ((155, .getfield 129, 3, 12, 19, (0), (0), [], 1283))))) (cond (Nat.ble 149 pc) (cond (Nat.ble 151 pc) (cond (Nat.ble 154 pc) ((154, .aload_n 0, 1, 0, 0, (0), (0), [], 0)) ((151, .getfield 145, 3, 12, 22, (0), (0), [], 1286))) (cond (Nat.ble 150 pc) ((150, .aload_n 0, 1, 0, 0, (0), (0), [], 0)) ((149, .iastore, 1, 0, 0, (0), (0), [], 0)))) (cond (Nat.ble 145 pc) (cond (Nat.ble 148 pc) ((148, .iload_n 2, 1, 2, 0, (0), (0), [], 0)) ((145, .getfield 129, 3, 12, 19, (0), (0), [], 1283))) (cond (Nat.ble 144 pc) ((144, .aload_n 0, 1, 0, 0, (0), (0), [], 0)) ((141, .getfield 132, 3, 12, 21, (0), (0), [], 1285)))))) (cond (Nat.ble 129 pc) (cond (Nat.ble 135 pc) (cond (Nat.ble 139 pc) (cond (Nat.ble 140 pc) ((140, .aload_n 0, 1, 0, 0, (0), (0), [], 0)) ((139, .iastore, 1, 0, 0, (0), (0), [], 0))) (cond (Nat.ble 138 pc) ((138, .iload_n 1, 1, 1, 0, (0), (0), [], 0)) ((135, .getfield 129, 3, 12, 19, (0), (0), [], 1283)))) (cond (Nat.ble 131 pc) (cond (Nat.ble 134 pc) ((134, .aload_n 0, 1, 0, 0, (0), (0), [], 0)) ((131, .getfield 138, 3, 12, 20, (0), (0), [], 1284))) (cond (Nat.ble 130 pc) ((130, .aload_n 0, 1, 0, 0, (0), (0), [], 0)) ((129, .iastore, 1, 0, 0, (0), (0), [], 0))))) (cond (Nat.ble 123 pc) (cond (Nat.ble 127 pc) (cond (Nat.ble 128 pc) ((128, .iadd, 1, 0, 0, (0), (0), [], 0)) ((127, .iload_n 3, 1, 3, 0, (0), (0), [], 0))) (cond (Nat.ble 124 pc) ((124, .goto 4, 3, 128, 0, (0), (0), [], 0)) ((123, .ineg, 1, 0, 0, (0), (0), [], 0)))) (cond (Nat.ble 119 pc) (cond (Nat.ble 122 pc) ((122, .iload_n 3, 1, 3, 0, (0), (0), [], 0)) ((119, .if_icmp .ne 8, 3, 127, 0, (0), (0), [], 0))) (cond (Nat.ble 118 pc) ((118, .iconst 2, 1, 0, 0, (2), (0), [], 0)) ((117, .iload_n 1, 1, 1, 0, (0), (0), [], 0)))))))) (cond (Nat.ble 62 pc) (cond (Nat.ble 89 pc) (cond (Nat.ble 105 pc) (cond (Nat.ble 109 pc) (cond (Nat.ble 113 pc) (cond (Nat.ble 114 pc) ((114, .goto 14, 3, 128, 0, (0), (0), [], 0)) ((113, .iconst 0, 1, 0, 0, (0), (0), [], 0))) (cond (Nat.ble 110 pc) ((110, .if_icmp .ne 7, 3, 117, 0, (0), (0), [], 0)) ((109, .iconst 1, 1, 0, 0, (1), (0), [], 0)))) (cond (Nat.ble 107 pc) (cond (Nat.ble 108 pc) ((108, .iload_n 1, 1, 1, 0, (0), (0), [], 0)) ((107, .iaload, 1, 0, 0, (0), (0), [], 0))) (cond (Nat.ble 106 pc) ((106, .dup2, 1, 0, 0, (0), (0), [], 0)) ((105, .iload_n 2, 1, 2, 0, (0), (0), [], 0))))) (cond (Nat.ble 98 pc) (cond (Nat.ble 101 pc) (cond (Nat.ble 102 pc) ((102, .getfield 108, 3, 12, 12, (0), (0), [], 1276)) ((101, .aload_n 0, 1, 0, 0, (0), (0), [], 0))) (cond (Nat.ble 100 pc) ((100, .ireturn, 1, 0, 0, (0), (0), [], 0)) ((98, .bipush (-4), 2, 0, 0, (-4), (0), [], 0)))) (cond (Nat.ble 93 pc) (cond (Nat.ble 95 pc) ((95, .if_icmp .ne 6, 3, 101, 0, (0), (0), [], 0)) ((93, .bipush 16, 2, 0, 0, (16), (0), [], 0))) (cond (Nat.ble 90 pc) ((90, .getfield 129, 3, 12, 19, (0), (0), [], 1283)) ((89, .aload_n 0, 1, 0, 0, (0), (0), [], 0)))))) (cond (Nat.ble 76 pc) (cond (Nat.ble 82 pc) (cond (Nat.ble 86 pc) (cond (Nat.ble 88 pc) ((88, .ireturn, 1, 0, 0, (0), (0), [], 0)) ((86, .bipush (-3), 2, 0, 0, (-3), (0), [], 0))) (cond (Nat.ble 83 pc) ((83, .if_icmp .ge 6, 3, 89, 0, (0), (0), [], 0)) ((82, .iload_n 3, 1, 3, 0, (0), (0), [], 0)))) (cond (Nat.ble 80 pc) (cond (Nat.ble 81 pc) ((81, .iaload, 1, 0, 0, (0), (0), [], 0)) ((80, .iload_n 2, 1, 2, 0, (0), (0), [], 0))) (cond (Nat.ble 77 pc) ((77, .getfield 108, 3, 12, 12, (0), (0), [], 1276)) ((76, .aload_n 0, 1, 0, 0, (0), (0), [], 0))))) (cond (Nat.ble 68 pc) (cond (Nat.ble 72 pc) (cond (Nat.ble 73 pc) ((73, .if_icmp .ne 16, 3, 89, 0, (0), (0), [], 0)) ((72, .iconst 2, 1, 0, 0, (2), (0), [], 0))) (cond (Nat.ble 71 pc) ((71, .iload_n 1, 1, 1, 0, (0), (0), [], 0)) ((68, .if_icmp .ne 18, 3, 86, 0, (0), (0), [], 0)))) (cond (Nat.ble 66 pc) (cond (Nat.ble 67 pc) ((67, .iconst 1, 1, 0, 0, (1), (0), [], 0)) ((66, .iload_n 1, 1, 1, 0, (0), (0), [], 0))) (cond (Nat.ble 63 pc) ((63, .if_icmp .eq 8, 3, 71, 0, (0), (0), [], 0)) ((62, .iconst (-1), 1, 0, 0, (-1), (0), [], 0))))))) (cond (Nat.ble 32 pc) (cond (Nat.ble 48 pc) (cond (Nat.ble 56 pc) (cond (Nat.ble 60 pc) (cond (Nat.ble 61 pc) ((61, .iaload, 1, 0, 0, (0), (0), [], 0)) ((60, .iload_n 2, 1, 2, 0, (0), (0), [], 0))) (cond (Nat.ble 57 pc) ((57, .getfield 111, 3, 12, 13, (0), (0), [], 1277)) ((56, .aload_n 0, 1, 0, 0, (0), (0), [], 0)))) (cond (Nat.ble 50 pc) (cond (Nat.ble 53 pc) ((53, .ifCond .eq 33, 3, 86, 0, (0), (0), [], 0)) ((50, .invokevirtual 121, 3, 135, 2, (0), (0), [], 1162))) (cond (Nat.ble 49 pc) ((49, .iload_n 2, 1, 2, 0, (0), (0), [], 0)) ((48, .aload_n 0, 1, 0, 0, (0), (0), [], 0))))) (cond (Nat.ble 39 pc) (cond (Nat.ble 45 pc) (cond (Nat.ble 47 pc) ((47, .ireturn, 1, 0, 0, (0), (0), [], 0)) ((45, .bipush (-2), 2, 0, 0, (-2), (0), [], 0))) (cond (Nat.ble 42 pc) ((42, .ifCond .ne 6, 3, 48, 0, (0), (0), [], 0)) ((39, .invokestatic 12, 3, 119, 3, (0), (0), [], 1091)))) (cond (Nat.ble 35 pc) (cond (Nat.ble 36 pc) ((36, .ldc2_w 41, 3, 0, 0, (0), (9), [], 1107)) ((35, .lconst 1, 1, 0, 0, (0), (1), [], 0))) (cond (Nat.ble 34 pc) ((34, .i2l, 1, 0, 0, (0), (0), [], 0)) ((32, .iload 4, 2, 4, 0, (0), (0), [], 0)))))) (cond (Nat.ble 14 pc) (cond (Nat.ble 22 pc) (cond (Nat.ble 26 pc) (cond (Nat.ble 29 pc) ((29, .ifCond .eq 16, 3, 45, 0, (0), (0), [], 0)) ((26, .invokestatic 12, 3, 119, 3, (0), (0), [], 1091))) (cond (Nat.ble 23 pc) ((23, .ldc2_w 67, 3, 0, 0, (0), (9999), [], 1132)) ((22, .lconst 1, 1, 0, 0, (0), (1), [], 0)))) (cond (Nat.ble 20 pc) (cond (Nat.ble 21 pc) ((21, .i2l, 1, 0, 0, (0), (0), [], 0)) ((20, .iload_n 3, 1, 3, 0, (0), (0), [], 0))) (cond (Nat.ble 17 pc) ((17, .ifCond .eq 28, 3, 45, 0, (0), (0), [], 0)) ((14, .invokevirtual 114, 3, 131, 2, (0), (0), [], 1146))))) (cond (Nat.ble 6 pc) (cond (Nat.ble 12 pc) (cond (Nat.ble 13 pc) ((13, .iload_n 2, 1, 2, 0, (0), (0), [], 0)) ((12, .aload_n 0, 1, 0, 0, (0), (0), [], 0))) (cond (Nat.ble 9 pc) ((9, .ifCond .eq 36, 3, 45, 0, (0), (0), [], 0)) ((6, .invokestatic 12, 3, 119, 3, (0), (0), [], 1091)))) (cond (Nat.ble 2 pc) (cond (Nat.ble 3 pc) ((3, .ldc2_w 143, 3, 0, 0, (0), (5), [], 1204)) ((2, .lconst 0, 1, 0, 0, (0), (0), [], 0))) (cond (Nat.ble 1 pc) ((1, .i2l, 1, 0, 0, (0), (0), [], 0)) ((0, .iload_n 1, 1, 1, 0, (0), (0), [], 0))))))))
def pg_145 (pc : Nat) : RI := cond (Nat.ble 78 pc) (cond (Nat.ble 96 pc) (cond (Nat.ble 106 pc) (cond (Nat.ble 111 pc) (cond (Nat.ble 113 pc) (cond (Nat.ble 115 pc) ((115, .ireturn, 1, 0, 0, (0), (0), [], 0)) ((113, .bipush (-2), 2, 0, 0, (-2), (0), [], 0))) (cond (Nat.ble 112 pc) ((112, .ireturn, 1, 0, 0, (0), (0), [], 0)) ((111, .iaload, 1, 0, 0, (0), (0), [], 0)))) (cond (Nat.ble 107 pc) (cond (Nat.ble 110 pc) ((110, .iload_n 1, 1, 1, 0, (0), (0), [], 0)) ((107, .getfield 157, 3, 12, 26, (0), (0), [], 1290))) ((106, .aload_n 0, 1, 0, 0, (0), (0), [], 0)))) (cond (Nat.ble 101 pc) (cond (Nat.ble 104 pc) (cond (Nat.ble 105 pc) ((105, .ireturn, 1, 0, 0, (0), (0), [], 0)) ((104, .iconst 0, 1, 0, 0, (0), (0), [], 0))) ((101, .goto 4, 3, 105, 0, (0), (0), [], 0))) (cond (Nat.ble 97 pc) (cond (Nat.ble 100 pc) ((100, .iconst 1, 1, 0, 0, (1), (0), [], 0)) ((97, .ifCond .eq 7, 3, 104, 0, (0), (0), [], 0))) ((96, .baload, 1, 0, 0, (0), (0), [], 0))))) (cond (Nat.ble 88 pc) (cond (Nat.ble 91 pc) (cond (Nat.ble 92 pc) (cond (Nat.ble 95 pc) ((95, .iload_n 1, 1, 1, 0, (0), (0), [], 0)) ((92, .getfield 135, 3, 12, 25, (0), (0), [], 1289))) ((91, .aload_n 0, 1, 0, 0, (0), (0), [], 0))) (cond (Nat.ble 89 pc) (cond (Nat.ble 90 pc) ((90, .ireturn, 1, 0, 0, (0), (0), [], 0)) ((89, .iaload, 1, 0, 0, (0), (0), [], 0))) ((88, .iload_n 1, 1, 1, 0, (0), (0), [], 0)))) (cond (Nat.ble 83 pc) (cond (Nat.ble 84 pc) (cond (Nat.ble 85 pc) ((85, .getfield 151, 3, 12, 24, (0), (0), [], 1288)) ((84, .aload_n 0, 1, 0, 0, (0), (0), [], 0))) ((83, .ireturn, 1, 0, 0, (0), (0), [], 0))) (cond (Nat.ble 81 pc) (cond (Nat.ble 82 pc) ((82, .iaload, 1, 0, 0, (0), (0), [], 0)) ((81, .iload_n 1, 1, 1, 0, (0), (0), [], 0))) ((78, .getfield 148, 3, 12, 23, (0), (0), [], 1287)))))) (cond (Nat.ble 62 pc) (cond (Nat.ble 70 pc) (cond (Nat.ble 75 pc) (cond (Nat.ble 76 pc) (cond (Nat.ble 77 pc) ((77, .aload_n 0, 1, 0, 0, (0), (0), [], 0)) ((76, .ireturn, 1, 0, 0, (0), (0), [], 0))) ((75, .iaload, 1, 0, 0, (0), (0), [], 0))) (cond (Nat.ble 71 pc) (cond (Nat.ble 74 pc) ((74, .iload_n 1, 1, 1, 0, (0), (0), [], 0)) ((71, .getfield 145, 3, 12, 22, (0), (0), [], 1286))) ((70, .aload_n 0, 1, 0, 0, (0), (0), [], 0)))) (cond (Nat.ble 67 pc) (cond (Nat.ble 68 pc) (cond (Nat.ble 69 pc) ((69, .ireturn, 1, 0, 0, (0), (0), [], 0)) ((68, .iaload, 1, 0, 0, (0), (0), [], 0))) ((67, .iload_n 1, 1, 1, 0, (0), (0), [], 0))) (cond (Nat.ble 63 pc) (cond (Nat.ble 64 pc) ((64, .getfield 132, 3, 12, 21, (0), (0), [], 1285)) ((63, .aload_n 0, 1, 0, 0, (0), (0), [], 0))) ((62, .ireturn, 1, 0, 0, (0), (0), [], 0))))) (cond (Nat.ble 11 pc) (cond (Nat.ble 57 pc) (cond (Nat.ble 60 pc) (cond (Nat.ble 61 pc) ((61, .iaload, 1, 0, 0, (0), (0), [], 0)) ((60, .iload_n 1, 1, 1, 0, (0), (0), [], 0))) ((57, .getfield 138, 3, 12, 20, (0), (0), [], 1284))) (cond (Nat.ble 12 pc) (cond (Nat.ble 56 pc) ((56, .aload_n 0, 1, 0, 0, (0), (0), [], 0)) ((12, .tableswitch 101 0 6 #[44, 51, 58, 65, 72, 79, 94], 44, 113, 0, (0), (0), [((0), 56), ((1), 63), ((2), 70), ((3), 77), ((4), 84), ((5), 91), ((6), 106)], 0))) ((11, .iload_n 2, 1, 2, 0, (0), (0), [], 0)))) (cond (Nat.ble 5 pc) (cond (Nat.ble 8 pc) (cond (Nat.ble 10 pc) ((10, .ireturn, 1, 0, 0, (0), (0), [], 0)) ((8, .bipush (-2), 2, 0, 0, (-2), (0), [], 0))) ((5, .ifCond .ne 6, 3, 11, 0, (0), (0), [], 0))) (cond (Nat.ble 1 pc) (cond (Nat.ble 2 pc) ((2, .invokevirtual 154, 3, 146, 2, (0), (0), [], 1209)) ((1, .iload_n 1, 1, 1, 0, (0), (0), [], 0))) ((0, .aload_n 0, 1, 0, 0, (0), (0), [], 0))))))
def pg_146 (pc : Nat) : RI := cond (Nat.ble 9 pc) (cond (Nat.ble 13 pc) (cond (Nat.ble 16 pc) (cond (Nat.ble 17 pc) ((17, .ireturn, 1, 1, 0, (0), (0), [], 0)) ((16, .iconst 0, 1, 0, 0, (0), (0), [], 0))) ((13, .goto 4, 3, 17, 0, (0), (0), [], 0))) (cond (Nat.ble 12 pc) ((12, .iconst 1, 1, 0, 0, (1), (0), [], 0)) ((9, .if_icmp .ge 7, 3, 16, 0, (0), (0), [], 0)))) (cond (Nat.ble 4 pc) (cond (Nat.ble 5 pc) (cond (Nat.ble 6 pc) ((6, .getfield 129, 3, 12, 19, (0), (0), [], 1283)) ((5, .aload_n 0, 1, 0, 0, (0), (0), [], 0))) ((4, .iload_n 1, 1, 1, 0, (0), (0), [], 0))) (cond (Nat.ble 1 pc) ((1, .ifCond .lt 15, 3, 16, 0, (0), (0), [], 0)) ((0, .iload_n 1, 1, 1, 0, (0), (0), [], 0))))
def pg_147 (pc : Nat) : RI := cond (Nat.ble 28 pc) (cond (Nat.ble 40 pc) (cond (Nat.ble 46 pc) (cond (Nat.ble 48 pc) (cond (Nat.ble 49 pc) ((49, .ireturn, 1, 0, 0, (0), (0), [], 0)) ((48, .iconst 1, 1, 0, 0, (1), (0), [], 0))) (cond (Nat.ble 47 pc) ((47, .iastore, 1, 0, 0, (0), (0), [], 0)) ((46, .iload_n 2, 1, 2, 0, (0), (0), [], 0)))) (cond (Nat.ble 42 pc) (cond (Nat.ble 45 pc) ((45, .iload_n 1, 1, 1, 0, (0), (0), [], 0)) ((42, .getfield 132, 3, 12, 21, (0), (0), [], 1285))) (cond (Nat.ble 41 pc) ((41, .aload_n 0, 1, 0, 0, (0), (0), [], 0)) ((40, .ireturn, 1, 0, 0, (0), (0), [], 0))))) (cond (Nat.ble 33 pc) (cond (Nat.ble 35 pc) (cond (Nat.ble 38 pc) ((38, .bipush (-3), 2, 0, 0, (-3), (0), [], 0)) ((35, .if_icmp .eq 6, 3, 41, 0, (0), (0), [], 0))) (cond (Nat.ble 34 pc) ((34, .iconst (-1), 1, 0, 0, (-1), (0), [], 0)) ((33, .iaload, 1, 0, 0, (0), (0), [], 0)))) (cond (Nat.ble 29 pc) (cond (Nat.ble 32 pc) ((32, .iload_n 1, 1, 1, 0, (0), (0), [], 0)) ((29, .getfield 132, 3, 12, 21, (0), (0), [], 1285))) ((28, .aload_n 0, 1, 0, 0, (0), (0), [], 0))))) (cond (Nat.ble 13 pc) (cond (Nat.ble 21 pc) (cond (Nat.ble 25 pc) (cond (Nat.ble 27 pc) ((27, .ireturn, 1, 0, 0, (0), (0), [], 0)) ((25, .bipush (-2), 2, 0, 0, (-2), (0), [], 0))) (cond (Nat.ble 22 pc) ((22, .ifCond .eq 6, 3, 28, 0, (0), (0), [], 0)) ((21, .baload, 1, 0, 0, (0), (0), [], 0)))) (cond (Nat.ble 17 pc) (cond (Nat.ble 20 pc) ((20, .iload_n 2, 1, 2, 0, (0), (0), [], 0)) ((17, .getfield 96, 3, 12, 15, (0), (0), [], 1279))) (cond (Nat.ble 16 pc) ((16, .aload_n 0, 1, 0, 0, (0), (0), [], 0)) ((13, .ifCond .eq 12, 3, 25, 0, (0), (0), [], 0))))) (cond (Nat.ble 5 pc) (cond (Nat.ble 9 pc) (cond (Nat.ble 10 pc) ((10, .invokevirtual 114, 3, 131, 2, (0), (0), [], 1146)) ((9, .iload_n 2, 1, 2, 0, (0), (0), [], 0))) (cond (Nat.ble 8 pc) ((8, .aload_n 0, 1, 0, 0, (0), (0), [], 0)) ((5, .ifCond .eq 20, 3, 25, 0, (0), (0), [], 0)))) (cond (Nat.ble 1 pc) (cond (Nat.ble 2 pc) ((2, .invokevirtual 154, 3, 146, 2, (0), (0), [], 1209)) ((1, .iload_n 1, 1, 1, 0, (0), (0), [], 0))) ((0, .aload_n 0, 1, 0, 0, (0), (0), [], 0)))))
def pg_148 (pc : Nat) : RI := cond (Nat.ble 32 pc) (cond (Nat.ble 45 pc) (cond (Nat.ble 54 pc) (cond (Nat.ble 58 pc) (cond (Nat.ble 59 pc) (cond (Nat.ble 60 pc) ((60, .ireturn, 1, 0, 0, (0), (0), [], 0)) ((59, .iaload, 1, 0, 0, (0), (0), [], 0))) ((58, .iload_n 1, 1, 1, 0, (0), (0), [], 0))) (cond (Nat.ble 55 pc) ((55, .getfield 111, 3, 12, 13, (0), (0), [], 1277)) ((54, .aload_n 0, 1, 0, 0, (0), (0), [], 0)))) (cond (Nat.ble 49 pc) (cond (Nat.ble 50 pc) (cond (Nat.ble 53 pc) ((53, .iastore, 1, 0, 0, (0), (0), [], 0)) ((50, .getfield 76, 3, 12, 0, (0), (0), [], 1264))) ((49, .aload_n 0, 1, 0, 0, (0), (0), [], 0))) (cond (Nat.ble 48 pc) ((48, .iload_n 1, 1, 1, 0, (0), (0), [], 0)) ((45, .getfield 160, 3, 12, 14, (0), (0), [], 1278))))) (cond (Nat.ble 38 pc) (cond (Nat.ble 42 pc) (cond (Nat.ble 43 pc) (cond (Nat.ble 44 pc) ((44, .aload_n 0, 1, 0, 0, (0), (0), [], 0)) ((43, .iastore, 1, 0, 0, (0), (0), [], 0))) ((42, .iaload, 1, 0, 0, (0), (0), [], 0))) (cond (Nat.ble 41 pc) ((41, .iload_n 1, 1, 1, 0, (0), (0), [], 0)) ((38, .getfield 108, 3, 12, 12, (0), (0), [], 1276)))) (cond (Nat.ble 36 pc) (cond (Nat.ble 37 pc) ((37, .aload_n 0, 1, 0, 0, (0), (0), [], 0)) ((36, .iload_n 1, 1, 1, 0, (0), (0), [], 0))) (cond (Nat.ble 33 pc) ((33, .getfield 111, 3, 12, 13, (0), (0), [], 1277)) ((32, .aload_n 0, 1, 0, 0, (0), (0), [], 0)))))) (cond (Nat.ble 16 pc) (cond (Nat.ble 24 pc) (cond (Nat.ble 26 pc) (cond (Nat.ble 29 pc) (cond (Nat.ble 31 pc) ((31, .ireturn, 1, 0, 0, (0), (0), [], 0)) ((29, .bipush (-3), 2, 0, 0, (-3), (0), [], 0))) ((26, .if_icmp .eq 6, 3, 32, 0, (0), (0), [], 0))) (cond (Nat.ble 25 pc) ((25, .iconst (-1), 1, 0, 0, (-1), (0), [], 0)) ((24, .iaload, 1, 0, 0, (0), (0), [], 0)))) (cond (Nat.ble 20 pc) (cond (Nat.ble 23 pc) ((23, .iload_n 1, 1, 1, 0, (0), (0), [], 0)) ((20, .getfield 111, 3, 12, 13, (0), (0), [], 1277))) (cond (Nat.ble 19 pc) ((19, .aload_n 0, 1, 0, 0, (0), (0), [], 0)) ((16, .ifCond .eq 13, 3, 29, 0, (0), (0), [], 0))))) (cond (Nat.ble 8 pc) (cond (Nat.ble 11 pc) (cond (Nat.ble 12 pc) (cond (Nat.ble 13 pc) ((13, .invokevirtual 121, 3, 135, 2, (0), (0), [], 1162)) ((12, .iload_n 1, 1, 1, 0, (0), (0), [], 0))) ((11, .aload_n 0, 1, 0, 0, (0), (0), [], 0))) (cond (Nat.ble 10 pc) ((10, .ireturn, 1, 0, 0, (0), (0), [], 0)) ((8, .bipush (-2), 2, 0, 0, (-2), (0), [], 0)))) (cond (Nat.ble 2 pc) (cond (Nat.ble 5 pc) ((5, .ifCond .ne 6, 3, 11, 0, (0), (0), [], 0)) ((2, .invokevirtual 114, 3, 131, 2, (0), (0), [], 1146))) (cond (Nat.ble 1 pc) ((1, .iload_n 1, 1, 1, 0, (0), (0), [], 0)) ((0, .aload_n 0, 1, 0, 0, (0), (0), [], 0))))))
def pg_149 (pc : Nat) : RI := cond (Nat.ble 124 pc) (cond (Nat.ble 189 pc) (cond (Nat.ble 217 pc) (cond (Nat.ble 230 pc) (cond (Nat.ble 237 pc) (cond (Nat.ble 241 pc) (cond (Nat.ble 242 pc) (cond (Nat.ble 243 pc) ((243, .ireturn, 1, 0, 0, (0), (0), [], 0)) ((242, .iaload, 1, 0, 0, (0), (0), [], 0))) ((241, .iload_n 1, 1, 1, 0, (0), (0), [], 0))) (cond (Nat.ble 238 pc) ((238, .getfield 108, 3, 12, 12, (0), (0), [], 1276)) ((237, .aload_n 0, 1, 0, 0, (0), (0), [], 0)))) (cond (Nat.ble 234 pc) (cond (Nat.ble 235 pc) (cond (Nat.ble 236 pc) ((236, .iastore, 1, 0, 0, (0), (0), [], 0)) ((235, .iconst (-1), 1, 0, 0, (-1), (0), [], 0))) ((234, .iload_n 1, 1, 1, 0, (0), (0), [], 0))) (cond (Nat.ble 231 pc) ((231, .getfield 111, 3, 12, 13, (0), (0), [], 1277)) ((230, .aload_n 0, 1, 0, 0, (0), (0), [], 0))))) (cond (Nat.ble 221 pc) (cond (Nat.ble 223 pc) (cond (Nat.ble 224 pc) (cond (Nat.ble 227 pc) ((227, .invokevirtual 202, 3, 157, 4, (0), (0), [], 1251)) ((224, .invokevirtual 198, 3, 155, 2, (0), (0), [], 1243))) ((223, .iload_n 1, 1, 1, 0, (0), (0), [], 0))) (cond (Nat.ble 222 pc) ((222, .aload_n 0, 1, 0, 0, (0), (0), [], 0)) ((221, .lload_n 2, 1, 2, 0, (0), (0), [], 0)))) (cond (Nat.ble 219 pc) (cond (Nat.ble 220 pc) ((220, .iload_n 1, 1, 1, 0, (0), (0), [], 0)) ((219, .aload_n 0, 1, 0, 0, (0), (0), [], 0))) (cond (Nat.ble 218 pc) ((218, .lstore_n 2, 1, 2, 0, (0), (0), [], 0)) ((217, .lconst 0, 1, 0, 0, (0), (0), [], 0)))))) (cond (Nat.ble 204 pc) (cond (Nat.ble 210 pc) (cond (Nat.ble 212 pc) (cond (Nat.ble 213 pc) (cond (Nat.ble 214 pc) ((214, .goto 4, 3, 218, 0, (0), (0), [], 0)) ((213, .i2l, 1, 0, 0, (0), (0), [], 0))) ((212, .isub, 1, 0, 0, (0), (0), [], 0))) (cond (Nat.ble 211 pc) ((211, .iaload, 1, 0, 0, (0), (0), [], 0)) ((210, .iload_n 1, 1, 1, 0, (0), (0), [], 0)))) (cond (Nat.ble 206 pc) (cond (Nat.ble 207 pc) ((207, .getfield 111, 3, 12, 13, (0), (0), [], 1277)) ((206, .aload_n 0, 1, 0, 0, (0), (0), [], 0))) (cond (Nat.ble 205 pc) ((205, .iaload, 1, 0, 0, (0), (0), [], 0)) ((204, .iload_n 1, 1, 1, 0, (0), (0), [], 0))))) (cond (Nat.ble 195 pc) (cond (Nat.ble 197 pc) (cond (Nat.ble 200 pc) (cond (Nat.ble 201 pc) ((201, .getfield 108, 3, 12, 12, (0), (0), [], 1276)) ((200, .aload_n 0, 1, 0, 0, (0), (0), [], 0))) ((197, .if_icmp .le 20, 3, 217, 0, (0), (0), [], 0))) (cond (Nat.ble 196 pc) ((196, .iaload, 1, 0, 0, (0), (0), [], 0)) ((195, .iload_n 1, 1, 1, 0, (0), (0), [], 0)))) (cond (Nat.ble 191 pc) (cond (Nat.ble 192 pc) ((192, .getfield 111, 3, 12, 13, (0), (0), [], 1277)) ((191, .aload_n 0, 1, 0, 0, (0), (0), [], 0))) (cond (Nat.ble 190 pc) ((190, .iaload, 1, 0, 0, (0), (0), [], 0)) ((189, .iload_n 1, 1, 1, 0, (0), (0), [], 0))))))) (cond (Nat.ble 156 pc) (cond (Nat.ble 173 pc) (cond (Nat.ble 180 pc) (cond (Nat.ble 182 pc) (cond (Nat.ble 185 pc) (cond (Nat.ble 186 pc) ((186, .getfield 108, 3, 12, 12, (0), (0), [], 1276)) ((185, .aload_n 0, 1, 0, 0, (0), (0), [], 0))) ((182, .invokevirtual 195, 3, 153, 2, (0), (0), [], 1235))) (cond (Nat.ble 181 pc) ((181, .iload_n 1, 1, 1, 0, (0), (0), [], 0)) ((180, .aload_n 0, 1, 0, 0, (0), (0), [], 0)))) (cond (Nat.ble 175 pc) (cond (Nat.ble 178 pc) (cond (Nat.ble 179 pc) ((179, .iastore, 1, 0, 0, (0), (0), [], 0)) ((178, .isub, 1, 0, 0, (0), (0), [], 0))) ((175, .invokestatic 163, 3, 152, 2, (0), (0), [], 1232))) (cond (Nat.ble 174 pc) ((174, .iaload, 1, 0, 0, (0), (0), [], 0)) ((173, .iload_n 1, 1, 1, 0, (0), (0), [], 0))))) (cond (Nat.ble 164 pc) (cond (Nat.ble 168 pc) (cond (Nat.ble 169 pc) (cond (Nat.ble 170 pc) ((170, .getfield 108, 3, 12, 12, (0), (0), [], 1276)) ((169, .aload_n 0, 1, 0, 0, (0), (0), [], 0))) ((168, .i2l, 1, 0, 0, (0), (0), [], 0))) (cond (Nat.ble 165 pc) ((165, .invokevirtual 187, 3, 150, 8, (0), (0), [], 1225)) ((164, .iconst 0, 1, 0, 0, (0), (0), [], 0)))) (cond (Nat.ble 160 pc) (cond (Nat.ble 163 pc) ((163, .iconst 0, 1, 0, 0, (0), (0), [], 0)) ((160, .getfield 184, 3, 12, 29, (0), (0), [], 1293))) (cond (Nat.ble 159 pc) ((159, .aload_n 0, 1, 0, 0, (0), (0), [], 0)) ((156, .getfield 181, 3, 12, 28, (0), (0), [], 1292)))))) (cond (Nat.ble 143 pc) (cond (Nat.ble 147 pc) (cond (Nat.ble 151 pc) (cond (Nat.ble 152 pc) (cond (Nat.ble 155 pc) ((155, .aload_n 0, 1, 0, 0, (0), (0), [], 0)) ((152, .getfield 178, 3, 12, 27, (0), (0), [], 1291))) ((151, .aload_n 0, 1, 0, 0, (0), (0), [], 0))) (cond (Nat.ble 150 pc) ((150, .iconst 1, 1, 0, 0, (1), (0), [], 0)) ((147, .getfield 175, 3, 12, 34, (0), (0), [], 1298)))) (cond (Nat.ble 145 pc) (cond (Nat.ble 146 pc) ((146, .aload_n 0, 1, 0, 0, (0), (0), [], 0)) ((145, .aload_n 0, 1, 0, 0, (0), (0), [], 0))) (cond (Nat.ble 144 pc) ((144, .iaload, 1, 0, 0, (0), (0), [], 0)) ((143, .dup2, 1, 0, 0, (0), (0), [], 0))))) (cond (Nat.ble 132 pc) (cond (Nat.ble 138 pc) (cond (Nat.ble 139 pc) (cond (Nat.ble 142 pc) ((142, .iload_n 1, 1, 1, 0, (0), (0), [], 0)) ((139, .getfield 108, 3, 12, 12, (0), (0), [], 1276))) ((138, .aload_n 0, 1, 0, 0, (0), (0), [], 0))) (cond (Nat.ble 135 pc) ((135, .goto (-64), 3, 71, 0, (0), (0), [], 0)) ((132, .iinc 2 1, 3, 2, 0, (1), (0), [], 0)))) (cond (Nat.ble 128 pc) (cond (Nat.ble 129 pc) ((129, .putfield 184, 3, 12, 29, (0), (0), [], 1293)) ((128, .iadd, 1, 0, 0, (0), (0), [], 0))) (cond (Nat.ble 127 pc) ((127, .iconst 0, 1, 0, 0, (0), (0), [], 0)) ((124, .goto 4, 3, 128, 0, (0), (0), [], 0)))))))) (cond (Nat.ble 61 pc) (cond (Nat.ble 91 pc) (cond (Nat.ble 108 pc) (cond (Nat.ble 117 pc) (cond (Nat.ble 119 pc) (cond (Nat.ble 120 pc) (cond (Nat.ble 123 pc) ((123, .iconst 1, 1, 0, 0, (1), (0), [], 0)) ((120, .if_icmp .ne 7, 3, 127, 0, (0), (0), [], 0))) ((119, .iconst 2, 1, 0, 0, (2), (0), [], 0))) (cond (Nat.ble 118 pc) ((118, .iaload, 1, 0, 0, (0), (0), [], 0)) ((117, .iload_n 2, 1, 2, 0, (0), (0), [], 0)))) (cond (Nat.ble 110 pc) (cond (Nat.ble 113 pc) (cond (Nat.ble 114 pc) ((114, .getfield 138, 3, 12, 20, (0), (0), [], 1284)) ((113, .aload_n 0, 1, 0, 0, (0), (0), [], 0))) ((110, .if_icmp .eq 13, 3, 123, 0, (0), (0), [], 0))) (cond (Nat.ble 109 pc) ((109, .iconst 1, 1, 0, 0, (1), (0), [], 0)) ((108, .iaload, 1, 0, 0, (0), (0), [], 0))))) (cond (Nat.ble 99 pc) (cond (Nat.ble 103 pc) (cond (Nat.ble 104 pc) (cond (Nat.ble 107 pc) ((107, .iload_n 2, 1, 2, 0, (0), (0), [], 0)) ((104, .getfield 138, 3, 12, 20, (0), (0), [], 1284))) ((103, .aload_n 0, 1, 0, 0, (0), (0), [], 0))) (cond (Nat.ble 100 pc) ((100, .ifCond .ne 27, 3, 127, 0, (0), (0), [], 0)) ((99, .baload, 1, 0, 0, (0), (0), [], 0)))) (cond (Nat.ble 95 pc) (cond (Nat.ble 98 pc) ((98, .iload_n 2, 1, 2, 0, (0), (0), [], 0)) ((95, .getfield 135, 3, 12, 25, (0), (0), [], 1289))) (cond (Nat.ble 94 pc) ((94, .aload_n 0, 1, 0, 0, (0), (0), [], 0)) ((91, .if_icmp .ne 36, 3, 127, 0, (0), (0), [], 0)))))) (cond (Nat.ble 76 pc) (cond (Nat.ble 84 pc) (cond (Nat.ble 88 pc) (cond (Nat.ble 89 pc) (cond (Nat.ble 90 pc) ((90, .iload_n 1, 1, 1, 0, (0), (0), [], 0)) ((89, .iaload, 1, 0, 0, (0), (0), [], 0))) ((88, .iload_n 2, 1, 2, 0, (0), (0), [], 0))) (cond (Nat.ble 85 pc) ((85, .getfield 132, 3, 12, 21, (0), (0), [], 1285)) ((84, .aload_n 0, 1, 0, 0, (0), (0), [], 0)))) (cond (Nat.ble 80 pc) (cond (Nat.ble 81 pc) ((81, .getfield 184, 3, 12, 29, (0), (0), [], 1293)) ((80, .dup, 1, 0, 0, (0), (0), [], 0))) (cond (Nat.ble 79 pc) ((79, .aload_n 0, 1, 0, 0, (0), (0), [], 0)) ((76, .if_icmp .ge 62, 3, 138, 0, (0), (0), [], 0))))) (cond (Nat.ble 69 pc) (cond (Nat.ble 71 pc) (cond (Nat.ble 72 pc) (cond (Nat.ble 73 pc) ((73, .getfield 129, 3, 12, 19, (0), (0), [], 1283)) ((72, .aload_n 0, 1, 0, 0, (0), (0), [], 0))) ((71, .iload_n 2, 1, 2, 0, (0), (0), [], 0))) (cond (Nat.ble 70 pc) ((70, .istore_n 2, 1, 2, 0, (0), (0), [], 0)) ((69, .iconst 0, 1, 0, 0, (0), (0), [], 0)))) (cond (Nat.ble 65 pc) (cond (Nat.ble 66 pc) ((66, .putfield 184, 3, 12, 29, (0), (0), [], 1293)) ((65, .iconst 0, 1, 0, 0, (0), (0), [], 0))) (cond (Nat.ble 64 pc) ((64, .aload_n 0, 1, 0, 0, (0), (0), [], 0)) ((61, .putfield 181, 3, 12, 28, (0), (0), [], 1292))))))) (cond (Nat.ble 32 pc) (cond (Nat.ble 45 pc) (cond (Nat.ble 54 pc) (cond (Nat.ble 58 pc) (cond (Nat.ble 59 pc) (cond (Nat.ble 60 pc) ((60, .isub, 1, 0, 0, (0), (0), [], 0)) ((59, .iaload, 1, 0, 0, (0), (0), [], 0))) ((58, .iload_n 1, 1, 1, 0, (0), (0), [], 0))) (cond (Nat.ble 55 pc) ((55, .getfield 160, 3, 12, 14, (0), (0), [], 1278)) ((54, .aload_n 0, 1, 0, 0, (0), (0), [], 0)))) (cond (Nat.ble 49 pc) (cond (Nat.ble 50 pc) (cond (Nat.ble 51 pc) ((51, .getfield 76, 3, 12, 0, (0), (0), [], 1264)) ((50, .aload_n 0, 1, 0, 0, (0), (0), [], 0))) ((49, .aload_n 0, 1, 0, 0, (0), (0), [], 0))) (cond (Nat.ble 46 pc) ((46, .putfield 178, 3, 12, 27, (0), (0), [], 1291)) ((45, .isub, 1, 0, 0, (0), (0), [], 0))))) (cond (Nat.ble 38 pc) (cond (Nat.ble 40 pc) (cond (Nat.ble 43 pc) (cond (Nat.ble 44 pc) ((44, .iaload, 1, 0, 0, (0), (0), [], 0)) ((43, .iload_n 1, 1, 1, 0, (0), (0), [], 0))) ((40, .getfield 111, 3, 12, 13, (0), (0), [], 1277))) (cond (Nat.ble 39 pc) ((39, .aload_n 0, 1, 0, 0, (0), (0), [], 0)) ((38, .iaload, 1, 0, 0, (0), (0), [], 0)))) (cond (Nat.ble 34 pc) (cond (Nat.ble 37 pc) ((37, .iload_n 1, 1, 1, 0, (0), (0), [], 0)) ((34, .getfield 108, 3, 12, 12, (0), (0), [], 1276))) (cond (Nat.ble 33 pc) ((33, .aload_n 0, 1, 0, 0, (0), (0), [], 0)) ((32, .aload_n 0, 1, 0, 0, (0), (0), [], 0)))))) (cond (Nat.ble 16 pc) (cond (Nat.ble 24 pc) (cond (Nat.ble 26 pc) (cond (Nat.ble 29 pc) (cond (Nat.ble 31 pc) ((31, .ireturn, 1, 0, 0, (0), (0), [], 0)) ((29, .bipush (-3), 2, 0, 0, (-3), (0), [], 0))) ((26, .if_icmp .ne 6, 3, 32, 0, (0), (0), [], 0))) (cond (Nat.ble 25 pc) ((25, .iconst (-1), 1, 0, 0, (-1), (0), [], 0)) ((24, .iaload, 1, 0, 0, (0), (0), [], 0)))) (cond (Nat.ble 20 pc) (cond (Nat.ble 23 pc) ((23, .iload_n 1, 1, 1, 0, (0), (0), [], 0)) ((20, .getfield 111, 3, 12, 13, (0), (0), [], 1277))) (cond (Nat.ble 19 pc) ((19, .aload_n 0, 1, 0, 0, (0), (0), [], 0)) ((16, .ifCond .eq 13, 3, 29, 0, (0), (0), [], 0))))) (cond (Nat.ble 8 pc) (cond (Nat.ble 11 pc) (cond (Nat.ble 12 pc) (cond (Nat.ble 13 pc) ((13, .invokevirtual 121, 3, 135, 2, (0), (0), [], 1162)) ((12, .iload_n 1, 1, 1, 0, (0), (0), [], 0))) ((11, .aload_n 0, 1, 0, 0, (0), (0), [], 0))) (cond (Nat.ble 10 pc) ((10, .ireturn, 1, 0, 0, (0), (0), [], 0)) ((8, .bipush (-2), 2, 0, 0, (-2), (0), [], 0)))) (cond (Nat.ble 2 pc) (cond (Nat.ble 5 pc) ((5, .ifCond .ne 6, 3, 11, 0, (0), (0), [], 0)) ((2, .invokevirtual 114, 3, 131, 2, (0), (0), [], 1146))) (cond (Nat.ble 1 pc) ((1, .iload_n 1, 1, 1, 0, (0), (0), [], 0)) ((0, .aload_n 0, 1, 0, 0, (0), (0), [], 0))))))))
def pg_150 (pc : Nat) : RI := cond (Nat.ble 150 pc) (cond (Nat.ble 216 pc) (cond (Nat.ble 249 pc) (cond (Nat.ble 264 pc) (cond (Nat.ble 275 pc) (cond (Nat.ble 279 pc) (cond (Nat.ble 280 pc) (cond (Nat.ble 281 pc) ((281, .ireturn, 1, 0, 0, (0), (0), [], 0)) ((280, .iaload, 1, 0, 0, (0), (0), [], 0))) ((279, .iconst 0, 1, 0, 0, (0), (0), [], 0))) (cond (Nat.ble 276 pc) ((276, .getfield 238, 3, 12, 47, (0), (0), [], 1311)) ((275, .aload_n 0, 1, 0, 0, (0), (0), [], 0)))) (cond (Nat.ble 268 pc) (cond (Nat.ble 269 pc) (cond (Nat.ble 272 pc) ((272, .goto (-254), 3, 18, 0, (0), (0), [], 0)) ((269, .iinc 10 1, 3, 10, 0, (1), (0), [], 0))) ((268, .iastore, 1, 0, 0, (0), (0), [], 0))) (cond (Nat.ble 265 pc) ((265, .invokestatic 314, 3, 151, 3, (0), (0), [], 1229)) ((264, .iaload, 1, 0, 0, (0), (0), [], 0))))) (cond (Nat.ble 256 pc) (cond (Nat.ble 258 pc) (cond (Nat.ble 259 pc) (cond (Nat.ble 262 pc) ((262, .iload 9, 2, 9, 0, (0), (0), [], 0)) ((259, .getfield 238, 3, 12, 47, (0), (0), [], 1311))) ((258, .aload_n 0, 1, 0, 0, (0), (0), [], 0))) (cond (Nat.ble 257 pc) ((257, .iaload, 1, 0, 0, (0), (0), [], 0)) ((256, .isub, 1, 0, 0, (0), (0), [], 0)))) (cond (Nat.ble 253 pc) (cond (Nat.ble 255 pc) ((255, .iconst 1, 1, 0, 0, (1), (0), [], 0)) ((253, .iload 9, 2, 9, 0, (0), (0), [], 0))) (cond (Nat.ble 250 pc) ((250, .getfield 238, 3, 12, 47, (0), (0), [], 1311)) ((249, .aload_n 0, 1, 0, 0, (0), (0), [], 0)))))) (cond (Nat.ble 232 pc) (cond (Nat.ble 240 pc) (cond (Nat.ble 245 pc) (cond (Nat.ble 246 pc) (cond (Nat.ble 247 pc) ((247, .iload 11, 2, 11, 0, (0), (0), [], 0)) ((246, .isub, 1, 0, 0, (0), (0), [], 0))) ((245, .iconst 1, 1, 0, 0, (1), (0), [], 0))) (cond (Nat.ble 243 pc) ((243, .iload 9, 2, 9, 0, (0), (0), [], 0)) ((240, .getfield 238, 3, 12, 47, (0), (0), [], 1311)))) (cond (Nat.ble 236 pc) (cond (Nat.ble 239 pc) ((239, .aload_n 0, 1, 0, 0, (0), (0), [], 0)) ((236, .iinc 9 (-1), 3, 9, 0, (-1), (0), [], 0))) (cond (Nat.ble 233 pc) ((233, .goto 36, 3, 269, 0, (0), (0), [], 0)) ((232, .iastore, 1, 0, 0, (0), (0), [], 0))))) (cond (Nat.ble 223 pc) (cond (Nat.ble 227 pc) (cond (Nat.ble 228 pc) (cond (Nat.ble 231 pc) ((231, .iconst 0, 1, 0, 0, (0), (0), [], 0)) ((228, .goto 4, 3, 232, 0, (0), (0), [], 0))) ((227, .iconst 1, 1, 0, 0, (1), (0), [], 0))) (cond (Nat.ble 224 pc) ((224, .ifCond .ne 7, 3, 231, 0, (0), (0), [], 0)) ((223, .iaload, 1, 0, 0, (0), (0), [], 0)))) (cond (Nat.ble 221 pc) (cond (Nat.ble 222 pc) ((222, .isub, 1, 0, 0, (0), (0), [], 0)) ((221, .iconst 1, 1, 0, 0, (1), (0), [], 0))) (cond (Nat.ble 219 pc) ((219, .iload 9, 2, 9, 0, (0), (0), [], 0)) ((216, .getfield 238, 3, 12, 47, (0), (0), [], 1311))))))) (cond (Nat.ble 186 pc) (cond (Nat.ble 200 pc) (cond (Nat.ble 208 pc) (cond (Nat.ble 213 pc) (cond (Nat.ble 214 pc) (cond (Nat.ble 215 pc) ((215, .aload_n 0, 1, 0, 0, (0), (0), [], 0)) ((214, .isub, 1, 0, 0, (0), (0), [], 0))) ((213, .iconst 1, 1, 0, 0, (1), (0), [], 0))) (cond (Nat.ble 211 pc) ((211, .iload 9, 2, 9, 0, (0), (0), [], 0)) ((208, .getfield 238, 3, 12, 47, (0), (0), [], 1311)))) (cond (Nat.ble 204 pc) (cond (Nat.ble 207 pc) ((207, .aload_n 0, 1, 0, 0, (0), (0), [], 0)) ((204, .if_icmp .ne 32, 3, 236, 0, (0), (0), [], 0))) (cond (Nat.ble 202 pc) ((202, .bipush 111, 2, 0, 0, (111), (0), [], 0)) ((200, .iload 11, 2, 11, 0, (0), (0), [], 0))))) (cond (Nat.ble 193 pc) (cond (Nat.ble 195 pc) (cond (Nat.ble 196 pc) (cond (Nat.ble 197 pc) ((197, .goto 72, 3, 269, 0, (0), (0), [], 0)) ((196, .iastore, 1, 0, 0, (0), (0), [], 0))) ((195, .ineg, 1, 0, 0, (0), (0), [], 0))) (cond (Nat.ble 194 pc) ((194, .iaload, 1, 0, 0, (0), (0), [], 0)) ((193, .isub, 1, 0, 0, (0), (0), [], 0)))) (cond (Nat.ble 190 pc) (cond (Nat.ble 192 pc) ((192, .iconst 1, 1, 0, 0, (1), (0), [], 0)) ((190, .iload 9, 2, 9, 0, (0), (0), [], 0))) (cond (Nat.ble 187 pc) ((187, .getfield 238, 3, 12, 47, (0), (0), [], 1311)) ((186, .aload_n 0, 1, 0, 0, (0), (0), [], 0)))))) (cond (Nat.ble 167 pc) (cond (Nat.ble 178 pc) (cond (Nat.ble 182 pc) (cond (Nat.ble 184 pc) (cond (Nat.ble 185 pc) ((185, .isub, 1, 0, 0, (0), (0), [], 0)) ((184, .iconst 1, 1, 0, 0, (1), (0), [], 0))) ((182, .iload 9, 2, 9, 0, (0), (0), [], 0))) (cond (Nat.ble 179 pc) ((179, .getfield 238, 3, 12, 47, (0), (0), [], 1311)) ((178, .aload_n 0, 1, 0, 0, (0), (0), [], 0)))) (cond (Nat.ble 172 pc) (cond (Nat.ble 175 pc) ((175, .if_icmp .ne 25, 3, 200, 0, (0), (0), [], 0)) ((172, .sipush 300, 3, 0, 0, (300), (0), [], 0))) (cond (Nat.ble 170 pc) ((170, .iload 11, 2, 11, 0, (0), (0), [], 0)) ((167, .goto 102, 3, 269, 0, (0), (0), [], 0))))) (cond (Nat.ble 159 pc) (cond (Nat.ble 162 pc) (cond (Nat.ble 163 pc) (cond (Nat.ble 164 pc) ((164, .iinc 9 1, 3, 9, 0, (1), (0), [], 0)) ((163, .iastore, 1, 0, 0, (0), (0), [], 0))) ((162, .irem, 1, 0, 0, (0), (0), [], 0))) (cond (Nat.ble 160 pc) ((160, .bipush 12, 2, 0, 0, (12), (0), [], 0)) ((159, .idiv, 1, 0, 0, (0), (0), [], 0)))) (cond (Nat.ble 154 pc) (cond (Nat.ble 157 pc) ((157, .bipush 30, 2, 0, 0, (30), (0), [], 0)) ((154, .getfield 76, 3, 12, 0, (0), (0), [], 1264))) (cond (Nat.ble 153 pc) ((153, .aload_n 0, 1, 0, 0, (0), (0), [], 0)) ((150, .goto 13, 3, 163, 0, (0), (0), [], 0)))))))) (cond (Nat.ble 66 pc) (cond (Nat.ble 105 pc) (cond (Nat.ble 126 pc) (cond (Nat.ble 138 pc) (cond (Nat.ble 143 pc) (cond (Nat.ble 145 pc) (cond (Nat.ble 148 pc) ((148, .iload 7, 2, 7, 0, (0), (0), [], 0)) ((145, .if_icmp .ne 8, 3, 153, 0, (0), (0), [], 0))) ((143, .bipush 104, 2, 0, 0, (104), (0), [], 0))) (cond (Nat.ble 141 pc) ((141, .iload 11, 2, 11, 0, (0), (0), [], 0)) ((138, .goto 25, 3, 163, 0, (0), (0), [], 0)))) (cond (Nat.ble 131 pc) (cond (Nat.ble 133 pc) (cond (Nat.ble 136 pc) ((136, .iload 6, 2, 6, 0, (0), (0), [], 0)) ((133, .if_icmp .ne 8, 3, 141, 0, (0), (0), [], 0))) ((131, .bipush 103, 2, 0, 0, (103), (0), [], 0))) (cond (Nat.ble 129 pc) ((129, .iload 11, 2, 11, 0, (0), (0), [], 0)) ((126, .goto 37, 3, 163, 0, (0), (0), [], 0))))) (cond (Nat.ble 114 pc) (cond (Nat.ble 119 pc) (cond (Nat.ble 121 pc) (cond (Nat.ble 124 pc) ((124, .iload 5, 2, 5, 0, (0), (0), [], 0)) ((121, .if_icmp .ne 8, 3, 129, 0, (0), (0), [], 0))) ((119, .bipush 102, 2, 0, 0, (102), (0), [], 0))) (cond (Nat.ble 117 pc) ((117, .iload 11, 2, 11, 0, (0), (0), [], 0)) ((114, .goto 49, 3, 163, 0, (0), (0), [], 0)))) (cond (Nat.ble 109 pc) (cond (Nat.ble 112 pc) ((112, .iload 4, 2, 4, 0, (0), (0), [], 0)) ((109, .if_icmp .ne 8, 3, 117, 0, (0), (0), [], 0))) (cond (Nat.ble 107 pc) ((107, .bipush 101, 2, 0, 0, (101), (0), [], 0)) ((105, .iload 11, 2, 11, 0, (0), (0), [], 0)))))) (cond (Nat.ble 85 pc) (cond (Nat.ble 94 pc) (cond (Nat.ble 98 pc) (cond (Nat.ble 101 pc) (cond (Nat.ble 102 pc) ((102, .goto 61, 3, 163, 0, (0), (0), [], 0)) ((101, .iload_n 3, 1, 3, 0, (0), (0), [], 0))) ((98, .if_icmp .ne 7, 3, 105, 0, (0), (0), [], 0))) (cond (Nat.ble 96 pc) ((96, .bipush 100, 2, 0, 0, (100), (0), [], 0)) ((94, .iload 11, 2, 11, 0, (0), (0), [], 0)))) (cond (Nat.ble 89 pc) (cond (Nat.ble 92 pc) ((92, .iload 9, 2, 9, 0, (0), (0), [], 0)) ((89, .getfield 238, 3, 12, 47, (0), (0), [], 1311))) (cond (Nat.ble 88 pc) ((88, .aload_n 0, 1, 0, 0, (0), (0), [], 0)) ((85, .if_icmp .ge 85, 3, 170, 0, (0), (0), [], 0))))) (cond (Nat.ble 74 pc) (cond (Nat.ble 78 pc) (cond (Nat.ble 81 pc) (cond (Nat.ble 83 pc) ((83, .bipush 106, 2, 0, 0, (106), (0), [], 0)) ((81, .iload 11, 2, 11, 0, (0), (0), [], 0))) ((78, .if_icmp .lt 92, 3, 170, 0, (0), (0), [], 0))) (cond (Nat.ble 76 pc) ((76, .bipush 100, 2, 0, 0, (100), (0), [], 0)) ((74, .iload 11, 2, 11, 0, (0), (0), [], 0)))) (cond (Nat.ble 68 pc) (cond (Nat.ble 71 pc) ((71, .goto 198, 3, 269, 0, (0), (0), [], 0)) ((68, .iinc 9 1, 3, 9, 0, (1), (0), [], 0))) (cond (Nat.ble 67 pc) ((67, .iastore, 1, 0, 0, (0), (0), [], 0)) ((66, .iaload, 1, 0, 0, (0), (0), [], 0))))))) (cond (Nat.ble 30 pc) (cond (Nat.ble 46 pc) (cond (Nat.ble 55 pc) (cond (Nat.ble 60 pc) (cond (Nat.ble 61 pc) (cond (Nat.ble 64 pc) ((64, .iload 10, 2, 10, 0, (0), (0), [], 0)) ((61, .getfield 222, 3, 12, 37, (0), (0), [], 1301))) ((60, .aload_n 0, 1, 0, 0, (0), (0), [], 0))) (cond (Nat.ble 58 pc) ((58, .iload 9, 2, 9, 0, (0), (0), [], 0)) ((55, .getfield 238, 3, 12, 47, (0), (0), [], 1311)))) (cond (Nat.ble 51 pc) (cond (Nat.ble 54 pc) ((54, .aload_n 0, 1, 0, 0, (0), (0), [], 0)) ((51, .if_icmp .ne 23, 3, 74, 0, (0), (0), [], 0))) (cond (Nat.ble 48 pc) ((48, .sipush 200, 3, 0, 0, (200), (0), [], 0)) ((46, .iload 11, 2, 11, 0, (0), (0), [], 0))))) (cond (Nat.ble 37 pc) (cond (Nat.ble 41 pc) (cond (Nat.ble 43 pc) (cond (Nat.ble 44 pc) ((44, .istore 11, 2, 11, 0, (0), (0), [], 0)) ((43, .iaload, 1, 0, 0, (0), (0), [], 0))) ((41, .iload 10, 2, 10, 0, (0), (0), [], 0))) (cond (Nat.ble 38 pc) ((38, .getfield 219, 3, 12, 36, (0), (0), [], 1300)) ((37, .aload_n 0, 1, 0, 0, (0), (0), [], 0)))) (cond (Nat.ble 33 pc) (cond (Nat.ble 34 pc) ((34, .if_icmp .ge 241, 3, 275, 0, (0), (0), [], 0)) ((33, .iadd, 1, 0, 0, (0), (0), [], 0))) (cond (Nat.ble 32 pc) ((32, .iaload, 1, 0, 0, (0), (0), [], 0)) ((30, .iload 8, 2, 8, 0, (0), (0), [], 0)))))) (cond (Nat.ble 13 pc) (cond (Nat.ble 20 pc) (cond (Nat.ble 25 pc) (cond (Nat.ble 26 pc) (cond (Nat.ble 27 pc) ((27, .getfield 216, 3, 12, 35, (0), (0), [], 1299)) ((26, .aload_n 0, 1, 0, 0, (0), (0), [], 0))) ((25, .imul, 1, 0, 0, (0), (0), [], 0))) (cond (Nat.ble 23 pc) ((23, .iload 8, 2, 8, 0, (0), (0), [], 0)) ((20, .sipush 160, 3, 0, 0, (160), (0), [], 0)))) (cond (Nat.ble 16 pc) (cond (Nat.ble 18 pc) ((18, .iload 10, 2, 10, 0, (0), (0), [], 0)) ((16, .istore 10, 2, 10, 0, (0), (0), [], 0))) (cond (Nat.ble 15 pc) ((15, .imul, 1, 0, 0, (0), (0), [], 0)) ((13, .iload 8, 2, 8, 0, (0), (0), [], 0))))) (cond (Nat.ble 4 pc) (cond (Nat.ble 7 pc) (cond (Nat.ble 8 pc) (cond (Nat.ble 10 pc) ((10, .sipush 160, 3, 0, 0, (160), (0), [], 0)) ((8, .istore 9, 2, 9, 0, (0), (0), [], 0))) ((7, .iconst 0, 1, 0, 0, (0), (0), [], 0))) (cond (Nat.ble 5 pc) ((5, .istore 8, 2, 8, 0, (0), (0), [], 0)) ((4, .iadd, 1, 0, 0, (0), (0), [], 0)))) (cond (Nat.ble 2 pc) (cond (Nat.ble 3 pc) ((3, .iload_n 2, 1, 2, 0, (0), (0), [], 0)) ((2, .imul, 1, 0, 0, (0), (0), [], 0))) (cond (Nat.ble 1 pc) ((1, .iload_n 1, 1, 1, 0, (0), (0), [], 0)) ((0, .iconst 3, 1, 0, 0, (3), (0), [], 0))))))))
def pg_151 (pc : Nat) : RI := cond (Nat.ble 84 pc) (cond (Nat.ble 103 pc) (cond (Nat.ble 112 pc) (cond (Nat.ble 117 pc) (cond (Nat.ble 120 pc) (cond (Nat.ble 121 pc) ((121, .ireturn, 1, 0, 0, (0), (0), [], 0)) ((120, .iconst 0, 1, 0, 0, (0), (0), [], 0))) ((117, .goto 4, 3, 121, 0, (0), (0), [], 0))) (cond (Nat.ble 113 pc) (cond (Nat.ble 116 pc) ((116, .iconst 1, 1, 0, 0, (1), (0), [], 0)) ((113, .ifCond .eq 7, 3, 120, 0, (0), (0), [], 0))) ((112, .iload_n 2, 1, 2, 0, (0), (0), [], 0)))) (cond (Nat.ble 107 pc) (cond (Nat.ble 108 pc) (cond (Nat.ble 109 pc) ((109, .ifCond .eq 11, 3, 120, 0, (0), (0), [], 0)) ((108, .iload_n 1, 1, 1, 0, (0), (0), [], 0))) ((107, .ireturn, 1, 0, 0, (0), (0), [], 0))) (cond (Nat.ble 106 pc) ((106, .iconst 0, 1, 0, 0, (0), (0), [], 0)) ((103, .goto 4, 3, 107, 0, (0), (0), [], 0))))) (cond (Nat.ble 93 pc) (cond (Nat.ble 98 pc) (cond (Nat.ble 99 pc) (cond (Nat.ble 102 pc) ((102, .iconst 1, 1, 0, 0, (1), (0), [], 0)) ((99, .ifCond .eq 7, 3, 106, 0, (0), (0), [], 0))) ((98, .iload_n 2, 1, 2, 0, (0), (0), [], 0))) (cond (Nat.ble 94 pc) (cond (Nat.ble 95 pc) ((95, .ifCond .ne 7, 3, 102, 0, (0), (0), [], 0)) ((94, .iload_n 1, 1, 1, 0, (0), (0), [], 0))) ((93, .ireturn, 1, 0, 0, (0), (0), [], 0)))) (cond (Nat.ble 88 pc) (cond (Nat.ble 89 pc) (cond (Nat.ble 92 pc) ((92, .iconst 0, 1, 0, 0, (0), (0), [], 0)) ((89, .goto 4, 3, 93, 0, (0), (0), [], 0))) ((88, .iconst 1, 1, 0, 0, (1), (0), [], 0))) (cond (Nat.ble 85 pc) ((85, .if_icmp .ne 7, 3, 92, 0, (0), (0), [], 0)) ((84, .iload_n 2, 1, 2, 0, (0), (0), [], 0)))))) (cond (Nat.ble 69 pc) (cond (Nat.ble 74 pc) (cond (Nat.ble 81 pc) (cond (Nat.ble 82 pc) (cond (Nat.ble 83 pc) ((83, .iload_n 1, 1, 1, 0, (0), (0), [], 0)) ((82, .ireturn, 1, 0, 0, (0), (0), [], 0))) ((81, .iconst 0, 1, 0, 0, (0), (0), [], 0))) (cond (Nat.ble 77 pc) (cond (Nat.ble 78 pc) ((78, .goto 4, 3, 82, 0, (0), (0), [], 0)) ((77, .iconst 1, 1, 0, 0, (1), (0), [], 0))) ((74, .if_icmp .ge 7, 3, 81, 0, (0), (0), [], 0)))) (cond (Nat.ble 71 pc) (cond (Nat.ble 72 pc) (cond (Nat.ble 73 pc) ((73, .iload_n 2, 1, 2, 0, (0), (0), [], 0)) ((72, .iload_n 1, 1, 1, 0, (0), (0), [], 0))) ((71, .ireturn, 1, 0, 0, (0), (0), [], 0))) (cond (Nat.ble 70 pc) ((70, .imul, 1, 0, 0, (0), (0), [], 0)) ((69, .iload_n 2, 1, 2, 0, (0), (0), [], 0))))) (cond (Nat.ble 63 pc) (cond (Nat.ble 66 pc) (cond (Nat.ble 67 pc) (cond (Nat.ble 68 pc) ((68, .iload_n 1, 1, 1, 0, (0), (0), [], 0)) ((67, .ireturn, 1, 0, 0, (0), (0), [], 0))) ((66, .isub, 1, 0, 0, (0), (0), [], 0))) (cond (Nat.ble 64 pc) (cond (Nat.ble 65 pc) ((65, .iload_n 2, 1, 2, 0, (0), (0), [], 0)) ((64, .iload_n 1, 1, 1, 0, (0), (0), [], 0))) ((63, .ireturn, 1, 0, 0, (0), (0), [], 0)))) (cond (Nat.ble 60 pc) (cond (Nat.ble 61 pc) (cond (Nat.ble 62 pc) ((62, .iadd, 1, 0, 0, (0), (0), [], 0)) ((61, .iload_n 2, 1, 2, 0, (0), (0), [], 0))) ((60, .iload_n 1, 1, 1, 0, (0), (0), [], 0))) (cond (Nat.ble 1 pc) ((1, .lookupswitch 107 #[(42, 67), (43, 59), (45, 63), (60, 71), (61, 82), (109, 93)], 59, 108, 0, (0), (0), [((42), 68), ((43), 60), ((45), 64), ((60), 72), ((61), 83), ((109), 94)], 0)) ((0, .iload_n 0, 1, 0, 0, (0), (0), [], 0))))))
def pg_152 (pc : Nat) : RI := cond (Nat.ble 12 pc) (cond (Nat.ble 18 pc) (cond (Nat.ble 22 pc) (cond (Nat.ble 23 pc) ((23, .ireturn, 1, 0, 0, (0), (0), [], 0)) ((22, .l2i, 1, 0, 0, (0), (0), [], 0))) (cond (Nat.ble 21 pc) ((21, .lload_n 0, 1, 0, 0, (0), (0), [], 0)) ((18, .goto 5, 3, 23, 0, (0), (0), [], 0)))) (cond (Nat.ble 14 pc) (cond (Nat.ble 17 pc) ((17, .iload_n 2, 1, 2, 0, (0), (0), [], 0)) ((14, .ifCond .le 7, 3, 21, 0, (0), (0), [], 0))) (cond (Nat.ble 13 pc) ((13, .lcmp, 1, 0, 0, (0), (0), [], 0)) ((12, .i2l, 1, 0, 0, (0), (0), [], 0))))) (cond (Nat.ble 6 pc) (cond (Nat.ble 10 pc) (cond (Nat.ble 11 pc) ((11, .iload_n 2, 1, 2, 0, (0), (0), [], 0)) ((10, .lload_n 0, 1, 0, 0, (0), (0), [], 0))) (cond (Nat.ble 7 pc) ((7, .goto 16, 3, 23, 0, (0), (0), [], 0)) ((6, .iconst 0, 1, 0, 0, (0), (0), [], 0)))) (cond (Nat.ble 2 pc) (cond (Nat.ble 3 pc) ((3, .ifCond .ge 7, 3, 10, 0, (0), (0), [], 0)) ((2, .lcmp, 1, 0, 0, (0), (0), [], 0))) (cond (Nat.ble 1 pc) ((1, .lconst 0, 1, 0, 0, (0), (0), [], 0)) ((0, .lload_n 0, 1, 0, 0, (0), (0), [], 0)))))
def pg_153 (pc : Nat) : RI := cond (Nat.ble 36 pc) (cond (Nat.ble 53 pc) (cond (Nat.ble 65 pc) (cond (Nat.ble 68 pc) (cond (Nat.ble 71 pc) (cond (Nat.ble 74 pc) ((74, .return_, 1, 0, 0, (0), (0), [], 0)) ((71, .goto (-69), 3, 2, 0, (0), (0), [], 0))) ((68, .iinc 2 1, 3, 2, 0, (1), (0), [], 0))) (cond (Nat.ble 66 pc) (cond (Nat.ble 67 pc) ((67, .bastore, 1, 0, 0, (0), (0), [], 0)) ((66, .iconst 1, 1, 0, 0, (1), (0), [], 0))) ((65, .iload_n 2, 1, 2, 0, (0), (0), [], 0)))) (cond (Nat.ble 58 pc) (cond (Nat.ble 61 pc) (cond (Nat.ble 62 pc) ((62, .getfield 135, 3, 12, 25, (0), (0), [], 1289)) ((61, .aload_n 0, 1, 0, 0, (0), (0), [], 0))) ((58, .invokevirtual 167, 3, 154, 4, (0), (0), [], 1239))) (cond (Nat.ble 54 pc) (cond (Nat.ble 55 pc) ((55, .invokestatic 163, 3, 152, 2, (0), (0), [], 1232)) ((54, .iaload, 1, 0, 0, (0), (0), [], 0))) ((53, .iload_n 1, 1, 1, 0, (0), (0), [], 0))))) (cond (Nat.ble 43 pc) (cond (Nat.ble 48 pc) (cond (Nat.ble 49 pc) (cond (Nat.ble 50 pc) ((50, .getfield 108, 3, 12, 12, (0), (0), [], 1276)) ((49, .aload_n 0, 1, 0, 0, (0), (0), [], 0))) ((48, .i2l, 1, 0, 0, (0), (0), [], 0))) (cond (Nat.ble 46 pc) (cond (Nat.ble 47 pc) ((47, .iaload, 1, 0, 0, (0), (0), [], 0)) ((46, .iload_n 2, 1, 2, 0, (0), (0), [], 0))) ((43, .getfield 151, 3, 12, 24, (0), (0), [], 1288)))) (cond (Nat.ble 40 pc) (cond (Nat.ble 41 pc) (cond (Nat.ble 42 pc) ((42, .aload_n 0, 1, 0, 0, (0), (0), [], 0)) ((41, .iload_n 1, 1, 1, 0, (0), (0), [], 0))) ((40, .iload_n 2, 1, 2, 0, (0), (0), [], 0))) (cond (Nat.ble 39 pc) ((39, .aload_n 0, 1, 0, 0, (0), (0), [], 0)) ((36, .if_icmp .ne 32, 3, 68, 0, (0), (0), [], 0)))))) (cond (Nat.ble 17 pc) (cond (Nat.ble 26 pc) (cond (Nat.ble 33 pc) (cond (Nat.ble 34 pc) (cond (Nat.ble 35 pc) ((35, .iconst 5, 1, 0, 0, (5), (0), [], 0)) ((34, .iaload, 1, 0, 0, (0), (0), [], 0))) ((33, .iload_n 2, 1, 2, 0, (0), (0), [], 0))) (cond (Nat.ble 29 pc) (cond (Nat.ble 30 pc) ((30, .getfield 138, 3, 12, 20, (0), (0), [], 1284)) ((29, .aload_n 0, 1, 0, 0, (0), (0), [], 0))) ((26, .ifCond .ne 42, 3, 68, 0, (0), (0), [], 0)))) (cond (Nat.ble 21 pc) (cond (Nat.ble 24 pc) (cond (Nat.ble 25 pc) ((25, .baload, 1, 0, 0, (0), (0), [], 0)) ((24, .iload_n 2, 1, 2, 0, (0), (0), [], 0))) ((21, .getfield 135, 3, 12, 25, (0), (0), [], 1289))) (cond (Nat.ble 20 pc) ((20, .aload_n 0, 1, 0, 0, (0), (0), [], 0)) ((17, .if_icmp .ne 51, 3, 68, 0, (0), (0), [], 0))))) (cond (Nat.ble 7 pc) (cond (Nat.ble 14 pc) (cond (Nat.ble 15 pc) (cond (Nat.ble 16 pc) ((16, .iload_n 1, 1, 1, 0, (0), (0), [], 0)) ((15, .iaload, 1, 0, 0, (0), (0), [], 0))) ((14, .iload_n 2, 1, 2, 0, (0), (0), [], 0))) (cond (Nat.ble 10 pc) (cond (Nat.ble 11 pc) ((11, .getfield 132, 3, 12, 21, (0), (0), [], 1285)) ((10, .aload_n 0, 1, 0, 0, (0), (0), [], 0))) ((7, .if_icmp .ge 67, 3, 74, 0, (0), (0), [], 0)))) (cond (Nat.ble 2 pc) (cond (Nat.ble 3 pc) (cond (Nat.ble 4 pc) ((4, .getfield 129, 3, 12, 19, (0), (0), [], 1283)) ((3, .aload_n 0, 1, 0, 0, (0), (0), [], 0))) ((2, .iload_n 2, 1, 2, 0, (0), (0), [], 0))) (cond (Nat.ble 1 pc) ((1, .istore_n 2, 1, 2, 0, (0), (0), [], 0)) ((0, .iconst 0, 1, 0, 0, (0), (0), [], 0))))))
def pg_154 (pc : Nat) : RI := cond (Nat.ble 10 pc) (cond (Nat.ble 16 pc) (cond (Nat.ble 18 pc) (cond (Nat.ble 19 pc) (cond (Nat.ble 20 pc) ((20, .return_, 1, 0, 0, (0), (0), [], 0)) ((19, .iastore, 1, 0, 0, (0), (0), [], 0))) ((18, .iadd, 1, 0, 0, (0), (0), [], 0))) (cond (Nat.ble 17 pc) ((17, .iload_n 3, 1, 3, 0, (0), (0), [], 0)) ((16, .iaload, 1, 0, 0, (0), (0), [], 0)))) (cond (Nat.ble 14 pc) (cond (Nat.ble 15 pc) ((15, .dup2, 1, 0, 0, (0), (0), [], 0)) ((14, .iload_n 1, 1, 1, 0, (0), (0), [], 0))) (cond (Nat.ble 11 pc) ((11, .getfield 157, 3, 12, 26, (0), (0), [], 1290)) ((10, .aload_n 0, 1, 0, 0, (0), (0), [], 0))))) (cond (Nat.ble 6 pc) (cond (Nat.ble 8 pc) (cond (Nat.ble 9 pc) ((9, .iastore, 1, 0, 0, (0), (0), [], 0)) ((8, .isub, 1, 0, 0, (0), (0), [], 0))) (cond (Nat.ble 7 pc) ((7, .iload_n 3, 1, 3, 0, (0), (0), [], 0)) ((6, .iaload, 1, 0, 0, (0), (0), [], 0)))) (cond (Nat.ble 4 pc) (cond (Nat.ble 5 pc) ((5, .dup2, 1, 0, 0, (0), (0), [], 0)) ((4, .iload_n 2, 1, 2, 0, (0), (0), [], 0))) (cond (Nat.ble 1 pc) ((1, .getfield 108, 3, 12, 12, (0), (0), [], 1276)) ((0, .aload_n 0, 1, 0, 0, (0), (0), [], 0)))))
def pg_155 (pc : Nat) : RI := cond (Nat.ble 67 pc) (cond (Nat.ble 101 pc) (cond (Nat.ble 118 pc) (cond (Nat.ble 126 pc) (cond (Nat.ble 130 pc) (cond (Nat.ble 133 pc) (cond (Nat.ble 134 pc) ((134, .lreturn, 1, 0, 0, (0), (0), [], 0)) ((133, .lload_n 2, 1, 2, 0, (0), (0), [], 0))) ((130, .goto (-125), 3, 5, 0, (0), (0), [], 0))) (cond (Nat.ble 127 pc) ((127, .iinc 4 1, 3, 4, 0, (1), (0), [], 0)) ((126, .lstore_n 2, 1, 2, 0, (0), (0), [], 0)))) (cond (Nat.ble 122 pc) (cond (Nat.ble 124 pc) (cond (Nat.ble 125 pc) ((125, .ladd, 1, 0, 0, (0), (0), [], 0)) ((124, .laload, 1, 0, 0, (0), (0), [], 0))) ((122, .iload 4, 2, 4, 0, (0), (0), [], 0))) (cond (Nat.ble 119 pc) ((119, .getfield 191, 3, 12, 30, (0), (0), [], 1294)) ((118, .aload_n 0, 1, 0, 0, (0), (0), [], 0))))) (cond (Nat.ble 110 pc) (cond (Nat.ble 114 pc) (cond (Nat.ble 116 pc) (cond (Nat.ble 117 pc) ((117, .lload_n 2, 1, 2, 0, (0), (0), [], 0)) ((116, .lastore, 1, 0, 0, (0), (0), [], 0))) ((114, .lload 5, 2, 5, 0, (0), (0), [], 0))) (cond (Nat.ble 111 pc) ((111, .goto 5, 3, 116, 0, (0), (0), [], 0)) ((110, .ldiv, 1, 0, 0, (0), (0), [], 0)))) (cond (Nat.ble 105 pc) (cond (Nat.ble 107 pc) ((107, .ldc2_w 51, 3, 0, 0, (0), (2), [], 1122)) ((105, .lload 5, 2, 5, 0, (0), (0), [], 0))) (cond (Nat.ble 102 pc) ((102, .if_icmp .ne 12, 3, 114, 0, (0), (0), [], 0)) ((101, .iconst 3, 1, 0, 0, (3), (0), [], 0)))))) (cond (Nat.ble 85 pc) (cond (Nat.ble 91 pc) (cond (Nat.ble 95 pc) (cond (Nat.ble 98 pc) (cond (Nat.ble 100 pc) ((100, .iaload, 1, 0, 0, (0), (0), [], 0)) ((98, .iload 4, 2, 4, 0, (0), (0), [], 0))) ((95, .getfield 138, 3, 12, 20, (0), (0), [], 1284))) (cond (Nat.ble 94 pc) ((94, .aload_n 0, 1, 0, 0, (0), (0), [], 0)) ((91, .goto 25, 3, 116, 0, (0), (0), [], 0)))) (cond (Nat.ble 87 pc) (cond (Nat.ble 90 pc) ((90, .lconst 0, 1, 0, 0, (0), (0), [], 0)) ((87, .ifCond .ge 7, 3, 94, 0, (0), (0), [], 0))) (cond (Nat.ble 86 pc) ((86, .lcmp, 1, 0, 0, (0), (0), [], 0)) ((85, .lconst 0, 1, 0, 0, (0), (0), [], 0))))) (cond (Nat.ble 75 pc) (cond (Nat.ble 78 pc) (cond (Nat.ble 81 pc) (cond (Nat.ble 83 pc) ((83, .lload 5, 2, 5, 0, (0), (0), [], 0)) ((81, .iload 4, 2, 4, 0, (0), (0), [], 0))) ((78, .getfield 191, 3, 12, 30, (0), (0), [], 1294))) (cond (Nat.ble 77 pc) ((77, .aload_n 0, 1, 0, 0, (0), (0), [], 0)) ((75, .lstore 5, 2, 5, 0, (0), (0), [], 0)))) (cond (Nat.ble 71 pc) (cond (Nat.ble 74 pc) ((74, .lconst 0, 1, 0, 0, (0), (0), [], 0)) ((71, .goto 4, 3, 75, 0, (0), (0), [], 0))) (cond (Nat.ble 70 pc) ((70, .i2l, 1, 0, 0, (0), (0), [], 0)) ((67, .invokevirtual 187, 3, 150, 8, (0), (0), [], 1225))))))) (cond (Nat.ble 32 pc) (cond (Nat.ble 49 pc) (cond (Nat.ble 59 pc) (cond (Nat.ble 61 pc) (cond (Nat.ble 64 pc) (cond (Nat.ble 66 pc) ((66, .iaload, 1, 0, 0, (0), (0), [], 0)) ((64, .iload 4, 2, 4, 0, (0), (0), [], 0))) ((61, .getfield 151, 3, 12, 24, (0), (0), [], 1288))) (cond (Nat.ble 60 pc) ((60, .aload_n 0, 1, 0, 0, (0), (0), [], 0)) ((59, .iaload, 1, 0, 0, (0), (0), [], 0)))) (cond (Nat.ble 53 pc) (cond (Nat.ble 54 pc) (cond (Nat.ble 57 pc) ((57, .iload 4, 2, 4, 0, (0), (0), [], 0)) ((54, .getfield 148, 3, 12, 23, (0), (0), [], 1287))) ((53, .aload_n 0, 1, 0, 0, (0), (0), [], 0))) (cond (Nat.ble 50 pc) ((50, .getfield 184, 3, 12, 29, (0), (0), [], 1293)) ((49, .aload_n 0, 1, 0, 0, (0), (0), [], 0))))) (cond (Nat.ble 40 pc) (cond (Nat.ble 42 pc) (cond (Nat.ble 45 pc) (cond (Nat.ble 46 pc) ((46, .getfield 181, 3, 12, 28, (0), (0), [], 1292)) ((45, .aload_n 0, 1, 0, 0, (0), (0), [], 0))) ((42, .getfield 178, 3, 12, 27, (0), (0), [], 1291))) (cond (Nat.ble 41 pc) ((41, .aload_n 0, 1, 0, 0, (0), (0), [], 0)) ((40, .iconst 0, 1, 0, 0, (0), (0), [], 0)))) (cond (Nat.ble 36 pc) (cond (Nat.ble 37 pc) ((37, .getfield 175, 3, 12, 34, (0), (0), [], 1298)) ((36, .aload_n 0, 1, 0, 0, (0), (0), [], 0))) (cond (Nat.ble 35 pc) ((35, .aload_n 0, 1, 0, 0, (0), (0), [], 0)) ((32, .if_icmp .eq 42, 3, 74, 0, (0), (0), [], 0)))))) (cond (Nat.ble 15 pc) (cond (Nat.ble 24 pc) (cond (Nat.ble 28 pc) (cond (Nat.ble 30 pc) (cond (Nat.ble 31 pc) ((31, .iconst 4, 1, 0, 0, (4), (0), [], 0)) ((30, .iaload, 1, 0, 0, (0), (0), [], 0))) ((28, .iload 4, 2, 4, 0, (0), (0), [], 0))) (cond (Nat.ble 25 pc) ((25, .getfield 138, 3, 12, 20, (0), (0), [], 1284)) ((24, .aload_n 0, 1, 0, 0, (0), (0), [], 0)))) (cond (Nat.ble 18 pc) (cond (Nat.ble 21 pc) ((21, .ifCond .eq 53, 3, 74, 0, (0), (0), [], 0)) ((18, .invokevirtual 171, 3, 156, 3, (0), (0), [], 1247))) (cond (Nat.ble 17 pc) ((17, .iload_n 1, 1, 1, 0, (0), (0), [], 0)) ((15, .iload 4, 2, 4, 0, (0), (0), [], 0))))) (cond (Nat.ble 5 pc) (cond (Nat.ble 8 pc) (cond (Nat.ble 11 pc) (cond (Nat.ble 14 pc) ((14, .aload_n 0, 1, 0, 0, (0), (0), [], 0)) ((11, .if_icmp .ge 122, 3, 133, 0, (0), (0), [], 0))) ((8, .getfield 129, 3, 12, 19, (0), (0), [], 1283))) (cond (Nat.ble 7 pc) ((7, .aload_n 0, 1, 0, 0, (0), (0), [], 0)) ((5, .iload 4, 2, 4, 0, (0), (0), [], 0)))) (cond (Nat.ble 2 pc) (cond (Nat.ble 3 pc) ((3, .istore 4, 2, 4, 0, (0), (0), [], 0)) ((2, .iconst 0, 1, 0, 0, (0), (0), [], 0))) (cond (Nat.ble 1 pc) ((1, .lstore_n 2, 1, 2, 0, (0), (0), [], 0)) ((0, .lconst 0, 1, 0, 0, (0), (0), [], 0)))))))
def pg_156 (pc : Nat) : RI := cond (Nat.ble 16 pc) (cond (Nat.ble 25 pc) (cond (Nat.ble 30 pc) (cond (Nat.ble 33 pc) (cond (Nat.ble 34 pc) ((34, .ireturn, 1, 1, 0, (0), (0), [], 0)) ((33, .iconst 0, 1, 0, 0, (0), (0), [], 0))) ((30, .goto 4, 3, 34, 0, (0), (0), [], 0))) (cond (Nat.ble 26 pc) (cond (Nat.ble 29 pc) ((29, .iconst 1, 1, 0, 0, (1), (0), [], 0)) ((26, .if_icmp .eq 7, 3, 33, 0, (0), (0), [], 0))) ((25, .iconst 5, 1, 0, 0, (5), (0), [], 0)))) (cond (Nat.ble 20 pc) (cond (Nat.ble 23 pc) (cond (Nat.ble 24 pc) ((24, .iaload, 1, 0, 0, (0), (0), [], 0)) ((23, .iload_n 1, 1, 1, 0, (0), (0), [], 0))) ((20, .getfield 138, 3, 12, 20, (0), (0), [], 1284))) (cond (Nat.ble 19 pc) ((19, .aload_n 0, 1, 0, 0, (0), (0), [], 0)) ((16, .ifCond .ne 17, 3, 33, 0, (0), (0), [], 0))))) (cond (Nat.ble 7 pc) (cond (Nat.ble 11 pc) (cond (Nat.ble 14 pc) (cond (Nat.ble 15 pc) ((15, .baload, 1, 0, 0, (0), (0), [], 0)) ((14, .iload_n 1, 1, 1, 0, (0), (0), [], 0))) ((11, .getfield 135, 3, 12, 25, (0), (0), [], 1289))) (cond (Nat.ble 10 pc) ((10, .aload_n 0, 1, 0, 0, (0), (0), [], 0)) ((7, .if_icmp .ne 26, 3, 33, 0, (0), (0), [], 0)))) (cond (Nat.ble 4 pc) (cond (Nat.ble 5 pc) (cond (Nat.ble 6 pc) ((6, .iload_n 2, 1, 2, 0, (0), (0), [], 0)) ((5, .iaload, 1, 0, 0, (0), (0), [], 0))) ((4, .iload_n 1, 1, 1, 0, (0), (0), [], 0))) (cond (Nat.ble 1 pc) ((1, .getfield 132, 3, 12, 21, (0), (0), [], 1285)) ((0, .aload_n 0, 1, 0, 0, (0), (0), [], 0)))))
def pg_157 (pc : Nat) : RI := cond (Nat.ble 125 pc) (cond (Nat.ble 182 pc) (cond (Nat.ble 216 pc) (cond (Nat.ble 233 pc) (cond (Nat.ble 241 pc) (cond (Nat.ble 243 pc) (cond (Nat.ble 246 pc) (cond (Nat.ble 249 pc) ((249, .return_, 1, 0, 0, (0), (0), [], 0)) ((246, .goto (-243), 3, 3, 0, (0), (0), [], 0))) ((243, .iinc 6 1, 3, 6, 0, (1), (0), [], 0))) (cond (Nat.ble 242 pc) ((242, .bastore, 1, 0, 0, (0), (0), [], 0)) ((241, .iconst 0, 1, 0, 0, (0), (0), [], 0)))) (cond (Nat.ble 237 pc) (cond (Nat.ble 238 pc) ((238, .goto 4, 3, 242, 0, (0), (0), [], 0)) ((237, .iconst 1, 1, 0, 0, (1), (0), [], 0))) (cond (Nat.ble 234 pc) ((234, .ifCond .ne 7, 3, 241, 0, (0), (0), [], 0)) ((233, .iaload, 1, 0, 0, (0), (0), [], 0))))) (cond (Nat.ble 223 pc) (cond (Nat.ble 227 pc) (cond (Nat.ble 228 pc) (cond (Nat.ble 231 pc) ((231, .iload 6, 2, 6, 0, (0), (0), [], 0)) ((228, .getfield 151, 3, 12, 24, (0), (0), [], 1288))) ((227, .aload_n 0, 1, 0, 0, (0), (0), [], 0))) (cond (Nat.ble 224 pc) ((224, .if_icmp .ne 17, 3, 241, 0, (0), (0), [], 0)) ((223, .iconst 2, 1, 0, 0, (2), (0), [], 0)))) (cond (Nat.ble 220 pc) (cond (Nat.ble 222 pc) ((222, .iaload, 1, 0, 0, (0), (0), [], 0)) ((220, .iload 6, 2, 6, 0, (0), (0), [], 0))) (cond (Nat.ble 217 pc) ((217, .getfield 138, 3, 12, 20, (0), (0), [], 1284)) ((216, .aload_n 0, 1, 0, 0, (0), (0), [], 0)))))) (cond (Nat.ble 199 pc) (cond (Nat.ble 206 pc) (cond (Nat.ble 211 pc) (cond (Nat.ble 212 pc) (cond (Nat.ble 213 pc) ((213, .if_icmp .gt 24, 3, 237, 0, (0), (0), [], 0)) ((212, .iconst 2, 1, 0, 0, (2), (0), [], 0))) ((211, .iaload, 1, 0, 0, (0), (0), [], 0))) (cond (Nat.ble 209 pc) ((209, .iload 6, 2, 6, 0, (0), (0), [], 0)) ((206, .getfield 138, 3, 12, 20, (0), (0), [], 1284)))) (cond (Nat.ble 202 pc) (cond (Nat.ble 205 pc) ((205, .aload_n 0, 1, 0, 0, (0), (0), [], 0)) ((202, .ifCond .eq 35, 3, 237, 0, (0), (0), [], 0))) (cond (Nat.ble 201 pc) ((201, .iaload, 1, 0, 0, (0), (0), [], 0)) ((199, .iload 6, 2, 6, 0, (0), (0), [], 0))))) (cond (Nat.ble 190 pc) (cond (Nat.ble 195 pc) (cond (Nat.ble 196 pc) ((196, .getfield 138, 3, 12, 20, (0), (0), [], 1284)) ((195, .aload_n 0, 1, 0, 0, (0), (0), [], 0))) (cond (Nat.ble 193 pc) ((193, .iload 6, 2, 6, 0, (0), (0), [], 0)) ((190, .getfield 135, 3, 12, 25, (0), (0), [], 1289)))) (cond (Nat.ble 186 pc) (cond (Nat.ble 189 pc) ((189, .aload_n 0, 1, 0, 0, (0), (0), [], 0)) ((186, .invokevirtual 167, 3, 154, 4, (0), (0), [], 1239))) (cond (Nat.ble 183 pc) ((183, .invokestatic 163, 3, 152, 2, (0), (0), [], 1232)) ((182, .iaload, 1, 0, 0, (0), (0), [], 0))))))) (cond (Nat.ble 157 pc) (cond (Nat.ble 168 pc) (cond (Nat.ble 174 pc) (cond (Nat.ble 177 pc) (cond (Nat.ble 178 pc) (cond (Nat.ble 181 pc) ((181, .iload_n 1, 1, 1, 0, (0), (0), [], 0)) ((178, .getfield 108, 3, 12, 12, (0), (0), [], 1276))) ((177, .aload_n 0, 1, 0, 0, (0), (0), [], 0))) (cond (Nat.ble 175 pc) ((175, .lload 7, 2, 7, 0, (0), (0), [], 0)) ((174, .iload_n 1, 1, 1, 0, (0), (0), [], 0)))) (cond (Nat.ble 171 pc) (cond (Nat.ble 172 pc) ((172, .iload 6, 2, 6, 0, (0), (0), [], 0)) ((171, .aload_n 0, 1, 0, 0, (0), (0), [], 0))) (cond (Nat.ble 169 pc) ((169, .lstore 7, 2, 7, 0, (0), (0), [], 0)) ((168, .lsub, 1, 0, 0, (0), (0), [], 0))))) (cond (Nat.ble 162 pc) (cond (Nat.ble 165 pc) (cond (Nat.ble 167 pc) ((167, .i2l, 1, 0, 0, (0), (0), [], 0)) ((165, .iload 9, 2, 9, 0, (0), (0), [], 0))) (cond (Nat.ble 163 pc) ((163, .lload 7, 2, 7, 0, (0), (0), [], 0)) ((162, .iastore, 1, 0, 0, (0), (0), [], 0)))) (cond (Nat.ble 159 pc) (cond (Nat.ble 161 pc) ((161, .isub, 1, 0, 0, (0), (0), [], 0)) ((159, .iload 9, 2, 9, 0, (0), (0), [], 0))) (cond (Nat.ble 158 pc) ((158, .iaload, 1, 0, 0, (0), (0), [], 0)) ((157, .dup2, 1, 0, 0, (0), (0), [], 0)))))) (cond (Nat.ble 139 pc) (cond (Nat.ble 146 pc) (cond (Nat.ble 151 pc) (cond (Nat.ble 152 pc) (cond (Nat.ble 155 pc) ((155, .iload 6, 2, 6, 0, (0), (0), [], 0)) ((152, .getfield 151, 3, 12, 24, (0), (0), [], 1288))) ((151, .aload_n 0, 1, 0, 0, (0), (0), [], 0))) (cond (Nat.ble 149 pc) ((149, .istore 9, 2, 9, 0, (0), (0), [], 0)) ((146, .invokestatic 163, 3, 152, 2, (0), (0), [], 1232)))) (cond (Nat.ble 143 pc) (cond (Nat.ble 145 pc) ((145, .iaload, 1, 0, 0, (0), (0), [], 0)) ((143, .iload 6, 2, 6, 0, (0), (0), [], 0))) (cond (Nat.ble 140 pc) ((140, .getfield 151, 3, 12, 24, (0), (0), [], 1288)) ((139, .aload_n 0, 1, 0, 0, (0), (0), [], 0))))) (cond (Nat.ble 130 pc) (cond (Nat.ble 135 pc) (cond (Nat.ble 136 pc) ((136, .goto 10, 3, 146, 0, (0), (0), [], 0)) ((135, .l2i, 1, 0, 0, (0), (0), [], 0))) (cond (Nat.ble 133 pc) ((133, .lload 7, 2, 7, 0, (0), (0), [], 0)) ((130, .ifCond .ge 9, 3, 139, 0, (0), (0), [], 0)))) (cond (Nat.ble 128 pc) (cond (Nat.ble 129 pc) ((129, .lcmp, 1, 0, 0, (0), (0), [], 0)) ((128, .i2l, 1, 0, 0, (0), (0), [], 0))) (cond (Nat.ble 127 pc) ((127, .iaload, 1, 0, 0, (0), (0), [], 0)) ((125, .iload 6, 2, 6, 0, (0), (0), [], 0)))))))) (cond (Nat.ble 65 pc) (cond (Nat.ble 93 pc) (cond (Nat.ble 108 pc) (cond (Nat.ble 115 pc) (cond (Nat.ble 119 pc) (cond (Nat.ble 121 pc) (cond (Nat.ble 122 pc) ((122, .getfield 151, 3, 12, 24, (0), (0), [], 1288)) ((121, .aload_n 0, 1, 0, 0, (0), (0), [], 0))) ((119, .lload 7, 2, 7, 0, (0), (0), [], 0))) (cond (Nat.ble 118 pc) ((118, .i2l, 1, 0, 0, (0), (0), [], 0)) ((115, .invokevirtual 187, 3, 150, 8, (0), (0), [], 1225)))) (cond (Nat.ble 112 pc) (cond (Nat.ble 114 pc) ((114, .iaload, 1, 0, 0, (0), (0), [], 0)) ((112, .iload 6, 2, 6, 0, (0), (0), [], 0))) (cond (Nat.ble 109 pc) ((109, .getfield 151, 3, 12, 24, (0), (0), [], 1288)) ((108, .aload_n 0, 1, 0, 0, (0), (0), [], 0))))) (cond (Nat.ble 101 pc) (cond (Nat.ble 105 pc) (cond (Nat.ble 107 pc) ((107, .iaload, 1, 0, 0, (0), (0), [], 0)) ((105, .iload 6, 2, 6, 0, (0), (0), [], 0))) (cond (Nat.ble 102 pc) ((102, .getfield 148, 3, 12, 23, (0), (0), [], 1287)) ((101, .aload_n 0, 1, 0, 0, (0), (0), [], 0)))) (cond (Nat.ble 97 pc) (cond (Nat.ble 98 pc) ((98, .getfield 184, 3, 12, 29, (0), (0), [], 1293)) ((97, .aload_n 0, 1, 0, 0, (0), (0), [], 0))) (cond (Nat.ble 94 pc) ((94, .getfield 181, 3, 12, 28, (0), (0), [], 1292)) ((93, .aload_n 0, 1, 0, 0, (0), (0), [], 0)))))) (cond (Nat.ble 78 pc) (cond (Nat.ble 84 pc) (cond (Nat.ble 88 pc) (cond (Nat.ble 89 pc) (cond (Nat.ble 90 pc) ((90, .getfield 178, 3, 12, 27, (0), (0), [], 1291)) ((89, .aload_n 0, 1, 0, 0, (0), (0), [], 0))) ((88, .iconst 2, 1, 0, 0, (2), (0), [], 0))) (cond (Nat.ble 85 pc) ((85, .getfield 175, 3, 12, 34, (0), (0), [], 1298)) ((84, .aload_n 0, 1, 0, 0, (0), (0), [], 0)))) (cond (Nat.ble 80 pc) (cond (Nat.ble 83 pc) ((83, .aload_n 0, 1, 0, 0, (0), (0), [], 0)) ((80, .if_icmp .ne 91, 3, 171, 0, (0), (0), [], 0))) (cond (Nat.ble 79 pc) ((79, .iconst 2, 1, 0, 0, (2), (0), [], 0)) ((78, .iaload, 1, 0, 0, (0), (0), [], 0))))) (cond (Nat.ble 70 pc) (cond (Nat.ble 73 pc) (cond (Nat.ble 76 pc) ((76, .iload 6, 2, 6, 0, (0), (0), [], 0)) ((73, .getfield 138, 3, 12, 20, (0), (0), [], 1284))) (cond (Nat.ble 72 pc) ((72, .aload_n 0, 1, 0, 0, (0), (0), [], 0)) ((70, .lstore 7, 2, 7, 0, (0), (0), [], 0)))) (cond (Nat.ble 67 pc) (cond (Nat.ble 69 pc) ((69, .ldiv, 1, 0, 0, (0), (0), [], 0)) ((67, .lload 4, 2, 4, 0, (0), (0), [], 0))) (cond (Nat.ble 66 pc) ((66, .lmul, 1, 0, 0, (0), (0), [], 0)) ((65, .laload, 1, 0, 0, (0), (0), [], 0))))))) (cond (Nat.ble 33 pc) (cond (Nat.ble 49 pc) (cond (Nat.ble 55 pc) (cond (Nat.ble 59 pc) (cond (Nat.ble 60 pc) (cond (Nat.ble 63 pc) ((63, .iload 6, 2, 6, 0, (0), (0), [], 0)) ((60, .getfield 191, 3, 12, 30, (0), (0), [], 1294))) ((59, .aload_n 0, 1, 0, 0, (0), (0), [], 0))) (cond (Nat.ble 58 pc) ((58, .lload_n 2, 1, 2, 0, (0), (0), [], 0)) ((55, .goto 15, 3, 70, 0, (0), (0), [], 0)))) (cond (Nat.ble 51 pc) (cond (Nat.ble 54 pc) ((54, .lconst 0, 1, 0, 0, (0), (0), [], 0)) ((51, .ifCond .ne 7, 3, 58, 0, (0), (0), [], 0))) (cond (Nat.ble 50 pc) ((50, .lcmp, 1, 0, 0, (0), (0), [], 0)) ((49, .lconst 0, 1, 0, 0, (0), (0), [], 0))))) (cond (Nat.ble 42 pc) (cond (Nat.ble 44 pc) (cond (Nat.ble 47 pc) ((47, .lload 4, 2, 4, 0, (0), (0), [], 0)) ((44, .goto 26, 3, 70, 0, (0), (0), [], 0))) (cond (Nat.ble 43 pc) ((43, .i2l, 1, 0, 0, (0), (0), [], 0)) ((42, .iaload, 1, 0, 0, (0), (0), [], 0)))) (cond (Nat.ble 37 pc) (cond (Nat.ble 40 pc) ((40, .iload 6, 2, 6, 0, (0), (0), [], 0)) ((37, .getfield 145, 3, 12, 22, (0), (0), [], 1286))) (cond (Nat.ble 36 pc) ((36, .aload_n 0, 1, 0, 0, (0), (0), [], 0)) ((33, .if_icmp .ne 14, 3, 47, 0, (0), (0), [], 0)))))) (cond (Nat.ble 15 pc) (cond (Nat.ble 25 pc) (cond (Nat.ble 29 pc) (cond (Nat.ble 31 pc) (cond (Nat.ble 32 pc) ((32, .iconst 4, 1, 0, 0, (4), (0), [], 0)) ((31, .iaload, 1, 0, 0, (0), (0), [], 0))) ((29, .iload 6, 2, 6, 0, (0), (0), [], 0))) (cond (Nat.ble 26 pc) ((26, .getfield 138, 3, 12, 20, (0), (0), [], 1284)) ((25, .aload_n 0, 1, 0, 0, (0), (0), [], 0)))) (cond (Nat.ble 19 pc) (cond (Nat.ble 22 pc) ((22, .goto 221, 3, 243, 0, (0), (0), [], 0)) ((19, .ifCond .ne 6, 3, 25, 0, (0), (0), [], 0))) (cond (Nat.ble 16 pc) ((16, .invokevirtual 171, 3, 156, 3, (0), (0), [], 1247)) ((15, .iload_n 1, 1, 1, 0, (0), (0), [], 0))))) (cond (Nat.ble 6 pc) (cond (Nat.ble 12 pc) (cond (Nat.ble 13 pc) ((13, .iload 6, 2, 6, 0, (0), (0), [], 0)) ((12, .aload_n 0, 1, 0, 0, (0), (0), [], 0))) (cond (Nat.ble 9 pc) ((9, .if_icmp .ge 240, 3, 249, 0, (0), (0), [], 0)) ((6, .getfield 129, 3, 12, 19, (0), (0), [], 1283)))) (cond (Nat.ble 3 pc) (cond (Nat.ble 5 pc) ((5, .aload_n 0, 1, 0, 0, (0), (0), [], 0)) ((3, .iload 6, 2, 6, 0, (0), (0), [], 0))) (cond (Nat.ble 1 pc) ((1, .istore 6, 2, 6, 0, (0), (0), [], 0)) ((0, .iconst 0, 1, 0, 0, (0), (0), [], 0))))))))
def pg_158 (pc : Nat) : RI := cond (Nat.ble 26 pc) (cond (Nat.ble 36 pc) (cond (Nat.ble 42 pc) (cond (Nat.ble 44 pc) (cond (Nat.ble 45 pc) (cond (Nat.ble 46 pc) ((46, .return_, 1, 0, 0, (0), (0), [], 0)) ((45, .iastore, 1, 0, 0, (0), (0), [], 0))) ((44, .iadd, 1, 0, 0, (0), (0), [], 0))) (cond (Nat.ble 43 pc) ((43, .iconst 1, 1, 0, 0, (1), (0), [], 0)) ((42, .iaload, 1, 0, 0, (0), (0), [], 0)))) (cond (Nat.ble 40 pc) (cond (Nat.ble 41 pc) ((41, .dup2, 1, 0, 0, (0), (0), [], 0)) ((40, .iload_n 1, 1, 1, 0, (0), (0), [], 0))) (cond (Nat.ble 37 pc) ((37, .getfield 216, 3, 12, 35, (0), (0), [], 1299)) ((36, .aload_n 0, 1, 0, 0, (0), (0), [], 0))))) (cond (Nat.ble 32 pc) (cond (Nat.ble 34 pc) (cond (Nat.ble 35 pc) ((35, .iastore, 1, 0, 0, (0), (0), [], 0)) ((34, .iload_n 3, 1, 3, 0, (0), (0), [], 0))) (cond (Nat.ble 33 pc) ((33, .iadd, 1, 0, 0, (0), (0), [], 0)) ((32, .iaload, 1, 0, 0, (0), (0), [], 0)))) (cond (Nat.ble 28 pc) (cond (Nat.ble 31 pc) ((31, .iload_n 1, 1, 1, 0, (0), (0), [], 0)) ((28, .getfield 216, 3, 12, 35, (0), (0), [], 1299))) (cond (Nat.ble 27 pc) ((27, .aload_n 0, 1, 0, 0, (0), (0), [], 0)) ((26, .imul, 1, 0, 0, (0), (0), [], 0)))))) (cond (Nat.ble 14 pc) (cond (Nat.ble 18 pc) (cond (Nat.ble 22 pc) (cond (Nat.ble 25 pc) ((25, .iload_n 1, 1, 1, 0, (0), (0), [], 0)) ((22, .sipush 160, 3, 0, 0, (160), (0), [], 0))) (cond (Nat.ble 19 pc) ((19, .getfield 222, 3, 12, 37, (0), (0), [], 1301)) ((18, .aload_n 0, 1, 0, 0, (0), (0), [], 0)))) (cond (Nat.ble 16 pc) (cond (Nat.ble 17 pc) ((17, .iastore, 1, 0, 0, (0), (0), [], 0)) ((16, .iload_n 2, 1, 2, 0, (0), (0), [], 0))) (cond (Nat.ble 15 pc) ((15, .iadd, 1, 0, 0, (0), (0), [], 0)) ((14, .iaload, 1, 0, 0, (0), (0), [], 0))))) (cond (Nat.ble 8 pc) (cond (Nat.ble 10 pc) (cond (Nat.ble 13 pc) ((13, .iload_n 1, 1, 1, 0, (0), (0), [], 0)) ((10, .getfield 216, 3, 12, 35, (0), (0), [], 1299))) (cond (Nat.ble 9 pc) ((9, .aload_n 0, 1, 0, 0, (0), (0), [], 0)) ((8, .imul, 1, 0, 0, (0), (0), [], 0)))) (cond (Nat.ble 4 pc) (cond (Nat.ble 7 pc) ((7, .iload_n 1, 1, 1, 0, (0), (0), [], 0)) ((4, .sipush 160, 3, 0, 0, (160), (0), [], 0))) (cond (Nat.ble 1 pc) ((1, .getfield 219, 3, 12, 36, (0), (0), [], 1300)) ((0, .aload_n 0, 1, 0, 0, (0), (0), [], 0))))))
def pg_159 (pc : Nat) : RI := cond (Nat.ble 40 pc) (cond (Nat.ble 57 pc) (cond (Nat.ble 64 pc) (cond (Nat.ble 73 pc) (cond (Nat.ble 74 pc) (cond (Nat.ble 77 pc) ((77, .ireturn, 1, 0, 0, (0), (0), [], 0)) ((74, .getfield 253, 3, 12, 32, (0), (0), [], 1296))) ((73, .aload_n 0, 1, 0, 0, (0), (0), [], 0))) (cond (Nat.ble 67 pc) (cond (Nat.ble 70 pc) ((70, .goto (-37), 3, 33, 0, (0), (0), [], 0)) ((67, .iinc 4 1, 3, 4, 0, (1), (0), [], 0))) ((64, .putfield 253, 3, 12, 32, (0), (0), [], 1296)))) (cond (Nat.ble 59 pc) (cond (Nat.ble 62 pc) (cond (Nat.ble 63 pc) ((63, .iadd, 1, 0, 0, (0), (0), [], 0)) ((62, .iconst 1, 1, 0, 0, (1), (0), [], 0))) ((59, .getfield 253, 3, 12, 32, (0), (0), [], 1296))) (cond (Nat.ble 58 pc) ((58, .dup, 1, 0, 0, (0), (0), [], 0)) ((57, .aload_n 0, 1, 0, 0, (0), (0), [], 0))))) (cond (Nat.ble 50 pc) (cond (Nat.ble 54 pc) (cond (Nat.ble 55 pc) (cond (Nat.ble 56 pc) ((56, .bastore, 1, 0, 0, (0), (0), [], 0)) ((55, .i2b, 1, 0, 0, (0), (0), [], 0))) ((54, .l2i, 1, 0, 0, (0), (0), [], 0))) (cond (Nat.ble 52 pc) (cond (Nat.ble 53 pc) ((53, .lshr, 1, 0, 0, (0), (0), [], 0)) ((52, .imul, 1, 0, 0, (0), (0), [], 0))) ((50, .iload 4, 2, 4, 0, (0), (0), [], 0)))) (cond (Nat.ble 44 pc) (cond (Nat.ble 47 pc) (cond (Nat.ble 48 pc) ((48, .bipush 8, 2, 0, 0, (8), (0), [], 0)) ((47, .lload_n 2, 1, 2, 0, (0), (0), [], 0))) ((44, .getfield 253, 3, 12, 32, (0), (0), [], 1296))) (cond (Nat.ble 43 pc) ((43, .aload_n 0, 1, 0, 0, (0), (0), [], 0)) ((40, .getfield 212, 3, 12, 31, (0), (0), [], 1295)))))) (cond (Nat.ble 20 pc) (cond (Nat.ble 30 pc) (cond (Nat.ble 35 pc) (cond (Nat.ble 36 pc) (cond (Nat.ble 39 pc) ((39, .aload_n 0, 1, 0, 0, (0), (0), [], 0)) ((36, .if_icmp .ge 37, 3, 73, 0, (0), (0), [], 0))) ((35, .iload_n 1, 1, 1, 0, (0), (0), [], 0))) (cond (Nat.ble 31 pc) (cond (Nat.ble 33 pc) ((33, .iload 4, 2, 4, 0, (0), (0), [], 0)) ((31, .istore 4, 2, 4, 0, (0), (0), [], 0))) ((30, .iconst 0, 1, 0, 0, (0), (0), [], 0)))) (cond (Nat.ble 24 pc) (cond (Nat.ble 27 pc) (cond (Nat.ble 29 pc) ((29, .ireturn, 1, 0, 0, (0), (0), [], 0)) ((27, .bipush (-4), 2, 0, 0, (-4), (0), [], 0))) ((24, .if_icmp .le 6, 3, 30, 0, (0), (0), [], 0))) (cond (Nat.ble 21 pc) ((21, .sipush 160, 3, 0, 0, (160), (0), [], 0)) ((20, .iadd, 1, 0, 0, (0), (0), [], 0))))) (cond (Nat.ble 9 pc) (cond (Nat.ble 15 pc) (cond (Nat.ble 16 pc) (cond (Nat.ble 19 pc) ((19, .iload_n 1, 1, 1, 0, (0), (0), [], 0)) ((16, .getfield 253, 3, 12, 32, (0), (0), [], 1296))) ((15, .aload_n 0, 1, 0, 0, (0), (0), [], 0))) (cond (Nat.ble 12 pc) (cond (Nat.ble 14 pc) ((14, .ireturn, 1, 0, 0, (0), (0), [], 0)) ((12, .bipush (-2), 2, 0, 0, (-2), (0), [], 0))) ((9, .ifCond .ne 6, 3, 15, 0, (0), (0), [], 0)))) (cond (Nat.ble 2 pc) (cond (Nat.ble 3 pc) (cond (Nat.ble 6 pc) ((6, .invokestatic 12, 3, 119, 3, (0), (0), [], 1091)) ((3, .ldc2_w 309, 3, 0, 0, (0), (8), [], 1449))) ((2, .lconst 1, 1, 0, 0, (0), (1), [], 0))) (cond (Nat.ble 1 pc) ((1, .i2l, 1, 0, 0, (0), (0), [], 0)) ((0, .iload_n 1, 1, 1, 0, (0), (0), [], 0))))))
def pg_160 (pc : Nat) : RI := cond (Nat.ble 28 pc) (cond (Nat.ble 39 pc) (cond (Nat.ble 45 pc) (cond (Nat.ble 49 pc) (cond (Nat.ble 50 pc) ((50, .ireturn, 1, 0, 0, (0), (0), [], 0)) ((49, .isub, 1, 0, 0, (0), (0), [], 0))) (cond (Nat.ble 48 pc) ((48, .iconst 1, 1, 0, 0, (1), (0), [], 0)) ((45, .getfield 250, 3, 12, 33, (0), (0), [], 1297)))) (cond (Nat.ble 41 pc) (cond (Nat.ble 44 pc) ((44, .aload_n 0, 1, 0, 0, (0), (0), [], 0)) ((41, .putfield 250, 3, 12, 33, (0), (0), [], 1297))) (cond (Nat.ble 40 pc) ((40, .iadd, 1, 0, 0, (0), (0), [], 0)) ((39, .iconst 1, 1, 0, 0, (1), (0), [], 0))))) (cond (Nat.ble 33 pc) (cond (Nat.ble 35 pc) (cond (Nat.ble 36 pc) ((36, .getfield 250, 3, 12, 33, (0), (0), [], 1297)) ((35, .dup, 1, 0, 0, (0), (0), [], 0))) (cond (Nat.ble 34 pc) ((34, .aload_n 0, 1, 0, 0, (0), (0), [], 0)) ((33, .ireturn, 1, 0, 0, (0), (0), [], 0)))) (cond (Nat.ble 29 pc) (cond (Nat.ble 32 pc) ((32, .isub, 1, 0, 0, (0), (0), [], 0)) ((29, .getfield 262, 3, 12, 42, (0), (0), [], 1306))) ((28, .aload_n 0, 1, 0, 0, (0), (0), [], 0))))) (cond (Nat.ble 13 pc) (cond (Nat.ble 19 pc) (cond (Nat.ble 23 pc) (cond (Nat.ble 26 pc) ((26, .bipush (-100), 2, 0, 0, (-100), (0), [], 0)) ((23, .ifCond .ne 11, 3, 34, 0, (0), (0), [], 0))) (cond (Nat.ble 22 pc) ((22, .iload_n 1, 1, 1, 0, (0), (0), [], 0)) ((19, .putfield 253, 3, 12, 32, (0), (0), [], 1296)))) (cond (Nat.ble 17 pc) (cond (Nat.ble 18 pc) ((18, .iconst 0, 1, 0, 0, (0), (0), [], 0)) ((17, .aload_n 0, 1, 0, 0, (0), (0), [], 0))) (cond (Nat.ble 16 pc) ((16, .istore_n 1, 1, 1, 0, (0), (0), [], 0)) ((13, .invokevirtual 311, 3, 161, 1, (0), (0), [], 1454))))) (cond (Nat.ble 6 pc) (cond (Nat.ble 11 pc) (cond (Nat.ble 12 pc) ((12, .aload_n 0, 1, 0, 0, (0), (0), [], 0)) ((11, .ireturn, 1, 0, 0, (0), (0), [], 0))) (cond (Nat.ble 9 pc) ((9, .bipush (-4), 2, 0, 0, (-4), (0), [], 0)) ((6, .if_icmp .ne 6, 3, 12, 0, (0), (0), [], 0)))) (cond (Nat.ble 1 pc) (cond (Nat.ble 4 pc) ((4, .bipush 6, 2, 0, 0, (6), (0), [], 0)) ((1, .getfield 250, 3, 12, 33, (0), (0), [], 1297))) ((0, .aload_n 0, 1, 0, 0, (0), (0), [], 0)))))
def pg_161 (pc : Nat) : RI := cond (Nat.ble 39 pc) (cond (Nat.ble 61 pc) (cond (Nat.ble 75 pc) (cond (Nat.ble 80 pc) (cond (Nat.ble 81 pc) (cond (Nat.ble 82 pc) ((82, .ireturn, 1, 1, 0, (0), (0), [], 0)) ((81, .iload_n 1, 1, 1, 0, (0), (0), [], 0))) ((80, .istore_n 1, 1, 1, 0, (0), (0), [], 0))) (cond (Nat.ble 76 pc) (cond (Nat.ble 79 pc) ((79, .iconst 0, 1, 0, 0, (0), (0), [], 0)) ((76, .goto 4, 3, 80, 0, (0), (0), [], 0))) ((75, .iconst 1, 1, 0, 0, (1), (0), [], 0)))) (cond (Nat.ble 68 pc) (cond (Nat.ble 69 pc) (cond (Nat.ble 72 pc) ((72, .ifCond .ne 7, 3, 79, 0, (0), (0), [], 0)) ((69, .getfield 265, 3, 12, 43, (0), (0), [], 1307))) ((68, .aload_n 0, 1, 0, 0, (0), (0), [], 0))) (cond (Nat.ble 64 pc) (cond (Nat.ble 65 pc) ((65, .invokevirtual 289, 3, 162, 1, (0), (0), [], 1458)) ((64, .aload_n 0, 1, 0, 0, (0), (0), [], 0))) ((61, .ifCond .eq 20, 3, 81, 0, (0), (0), [], 0))))) (cond (Nat.ble 49 pc) (cond (Nat.ble 54 pc) (cond (Nat.ble 57 pc) (cond (Nat.ble 60 pc) ((60, .iload_n 1, 1, 1, 0, (0), (0), [], 0)) ((57, .goto (-48), 3, 9, 0, (0), (0), [], 0))) ((54, .iinc 2 1, 3, 2, 0, (1), (0), [], 0))) (cond (Nat.ble 52 pc) (cond (Nat.ble 53 pc) ((53, .istore_n 1, 1, 1, 0, (0), (0), [], 0)) ((52, .iconst 0, 1, 0, 0, (0), (0), [], 0))) ((49, .goto 4, 3, 53, 0, (0), (0), [], 0)))) (cond (Nat.ble 42 pc) (cond (Nat.ble 45 pc) (cond (Nat.ble 48 pc) ((48, .iconst 1, 1, 0, 0, (1), (0), [], 0)) ((45, .ifCond .eq 7, 3, 52, 0, (0), (0), [], 0))) ((42, .invokevirtual 306, 3, 168, 2, (0), (0), [], 1479))) (cond (Nat.ble 40 pc) (cond (Nat.ble 41 pc) ((41, .iadd, 1, 0, 0, (0), (0), [], 0)) ((40, .iload_n 2, 1, 2, 0, (0), (0), [], 0))) ((39, .imul, 1, 0, 0, (0), (0), [], 0)))))) (cond (Nat.ble 18 pc) (cond (Nat.ble 29 pc) (cond (Nat.ble 34 pc) (cond (Nat.ble 35 pc) (cond (Nat.ble 36 pc) ((36, .getfield 250, 3, 12, 33, (0), (0), [], 1297)) ((35, .aload_n 0, 1, 0, 0, (0), (0), [], 0))) ((34, .iconst 3, 1, 0, 0, (3), (0), [], 0))) (cond (Nat.ble 30 pc) (cond (Nat.ble 33 pc) ((33, .aload_n 0, 1, 0, 0, (0), (0), [], 0)) ((30, .if_icmp .ne 22, 3, 52, 0, (0), (0), [], 0))) ((29, .iadd, 1, 0, 0, (0), (0), [], 0)))) (cond (Nat.ble 23 pc) (cond (Nat.ble 26 pc) (cond (Nat.ble 28 pc) ((28, .iload_n 2, 1, 2, 0, (0), (0), [], 0)) ((26, .bipush 106, 2, 0, 0, (106), (0), [], 0))) ((23, .getfield 265, 3, 12, 43, (0), (0), [], 1307))) (cond (Nat.ble 19 pc) (cond (Nat.ble 22 pc) ((22, .aload_n 0, 1, 0, 0, (0), (0), [], 0)) ((19, .invokevirtual 289, 3, 162, 1, (0), (0), [], 1458))) ((18, .aload_n 0, 1, 0, 0, (0), (0), [], 0))))) (cond (Nat.ble 8 pc) (cond (Nat.ble 11 pc) (cond (Nat.ble 14 pc) (cond (Nat.ble 15 pc) ((15, .ifCond .eq 45, 3, 60, 0, (0), (0), [], 0)) ((14, .iload_n 1, 1, 1, 0, (0), (0), [], 0))) ((11, .if_icmp .ge 49, 3, 60, 0, (0), (0), [], 0))) (cond (Nat.ble 9 pc) (cond (Nat.ble 10 pc) ((10, .iconst 3, 1, 0, 0, (3), (0), [], 0)) ((9, .iload_n 2, 1, 2, 0, (0), (0), [], 0))) ((8, .istore_n 2, 1, 2, 0, (0), (0), [], 0)))) (cond (Nat.ble 5 pc) (cond (Nat.ble 6 pc) (cond (Nat.ble 7 pc) ((7, .iconst 0, 1, 0, 0, (0), (0), [], 0)) ((6, .istore_n 1, 1, 1, 0, (0), (0), [], 0))) ((5, .iconst 1, 1, 0, 0, (1), (0), [], 0))) (cond (Nat.ble 1 pc) (cond (Nat.ble 2 pc) ((2, .putfield 259, 3, 12, 41, (0), (0), [], 1305)) ((1, .iconst 0, 1, 0, 0, (0), (0), [], 0))) ((0, .aload_n 0, 1, 0, 0, (0), (0), [], 0))))))
def pg_162 (pc : Nat) : RI := cond (Nat.ble 122 pc) (cond (Nat.ble 174 pc) (cond (Nat.ble 207 pc) (cond (Nat.ble 220 pc) (cond (Nat.ble 228 pc) (cond (Nat.ble 230 pc) (cond (Nat.ble 233 pc) ((233, .return_, 1, 0, 0, (0), (0), [], 0)) ((230, .putfield 259, 3, 12, 41, (0), (0), [], 1305))) (cond (Nat.ble 229 pc) ((229, .iadd, 1, 0, 0, (0), (0), [], 0)) ((228, .iload_n 2, 1, 2, 0, (0), (0), [], 0)))) (cond (Nat.ble 224 pc) (cond (Nat.ble 225 pc) ((225, .getfield 259, 3, 12, 41, (0), (0), [], 1305)) ((224, .dup, 1, 0, 0, (0), (0), [], 0))) (cond (Nat.ble 223 pc) ((223, .aload_n 0, 1, 0, 0, (0), (0), [], 0)) ((220, .putfield 265, 3, 12, 43, (0), (0), [], 1307))))) (cond (Nat.ble 212 pc) (cond (Nat.ble 216 pc) (cond (Nat.ble 219 pc) ((219, .iconst (-1), 1, 0, 0, (-1), (0), [], 0)) ((216, .goto 4, 3, 220, 0, (0), (0), [], 0))) (cond (Nat.ble 215 pc) ((215, .iload_n 1, 1, 1, 0, (0), (0), [], 0)) ((212, .ifCond .eq 7, 3, 219, 0, (0), (0), [], 0)))) (cond (Nat.ble 208 pc) (cond (Nat.ble 209 pc) ((209, .invokestatic 280, 3, 167, 1, (0), (0), [], 1476)) ((208, .iload_n 1, 1, 1, 0, (0), (0), [], 0))) ((207, .aload_n 0, 1, 0, 0, (0), (0), [], 0))))) (cond (Nat.ble 189 pc) (cond (Nat.ble 199 pc) (cond (Nat.ble 205 pc) (cond (Nat.ble 206 pc) ((206, .istore_n 2, 1, 2, 0, (0), (0), [], 0)) ((205, .iconst 1, 1, 0, 0, (1), (0), [], 0))) (cond (Nat.ble 202 pc) ((202, .goto 21, 3, 223, 0, (0), (0), [], 0)) ((199, .putfield 265, 3, 12, 43, (0), (0), [], 1307)))) (cond (Nat.ble 193 pc) (cond (Nat.ble 196 pc) ((196, .sipush 200, 3, 0, 0, (200), (0), [], 0)) ((193, .goto 6, 3, 199, 0, (0), (0), [], 0))) (cond (Nat.ble 192 pc) ((192, .iconst (-1), 1, 0, 0, (-1), (0), [], 0)) ((189, .if_icmp .le 7, 3, 196, 0, (0), (0), [], 0))))) (cond (Nat.ble 183 pc) (cond (Nat.ble 187 pc) (cond (Nat.ble 188 pc) ((188, .iconst 4, 1, 0, 0, (4), (0), [], 0)) ((187, .iload_n 2, 1, 2, 0, (0), (0), [], 0))) (cond (Nat.ble 186 pc) ((186, .aload_n 0, 1, 0, 0, (0), (0), [], 0)) ((183, .goto (-56), 3, 127, 0, (0), (0), [], 0)))) (cond (Nat.ble 177 pc) (cond (Nat.ble 180 pc) ((180, .iinc 2 1, 3, 2, 0, (1), (0), [], 0)) ((177, .putfield 277, 3, 12, 44, (0), (0), [], 1308))) ((174, .getfield 277, 3, 12, 44, (0), (0), [], 1308)))))) (cond (Nat.ble 149 pc) (cond (Nat.ble 161 pc) (cond (Nat.ble 167 pc) (cond (Nat.ble 170 pc) (cond (Nat.ble 173 pc) ((173, .aload_n 0, 1, 0, 0, (0), (0), [], 0)) ((170, .goto 7, 3, 177, 0, (0), (0), [], 0))) (cond (Nat.ble 169 pc) ((169, .isub, 1, 0, 0, (0), (0), [], 0)) ((167, .bipush 48, 2, 0, 0, (48), (0), [], 0)))) (cond (Nat.ble 163 pc) (cond (Nat.ble 166 pc) ((166, .iadd, 1, 0, 0, (0), (0), [], 0)) ((163, .invokevirtual 256, 3, 163, 2, (0), (0), [], 1462))) (cond (Nat.ble 162 pc) ((162, .iadd, 1, 0, 0, (0), (0), [], 0)) ((161, .iload_n 2, 1, 2, 0, (0), (0), [], 0))))) (cond (Nat.ble 155 pc) (cond (Nat.ble 157 pc) (cond (Nat.ble 158 pc) ((158, .getfield 259, 3, 12, 41, (0), (0), [], 1305)) ((157, .aload_n 0, 1, 0, 0, (0), (0), [], 0))) (cond (Nat.ble 156 pc) ((156, .aload_n 0, 1, 0, 0, (0), (0), [], 0)) ((155, .imul, 1, 0, 0, (0), (0), [], 0)))) (cond (Nat.ble 151 pc) (cond (Nat.ble 152 pc) ((152, .getfield 277, 3, 12, 44, (0), (0), [], 1308)) ((151, .aload_n 0, 1, 0, 0, (0), (0), [], 0))) ((149, .bipush 10, 2, 0, 0, (10), (0), [], 0))))) (cond (Nat.ble 133 pc) (cond (Nat.ble 143 pc) (cond (Nat.ble 145 pc) (cond (Nat.ble 146 pc) ((146, .if_icmp .ge 27, 3, 173, 0, (0), (0), [], 0)) ((145, .iconst 4, 1, 0, 0, (4), (0), [], 0))) (cond (Nat.ble 144 pc) ((144, .iload_n 2, 1, 2, 0, (0), (0), [], 0)) ((143, .aload_n 0, 1, 0, 0, (0), (0), [], 0)))) (cond (Nat.ble 137 pc) (cond (Nat.ble 140 pc) ((140, .ifCond .eq 46, 3, 186, 0, (0), (0), [], 0)) ((137, .invokestatic 274, 3, 166, 1, (0), (0), [], 1473))) (cond (Nat.ble 134 pc) ((134, .invokevirtual 256, 3, 163, 2, (0), (0), [], 1462)) ((133, .iadd, 1, 0, 0, (0), (0), [], 0))))) (cond (Nat.ble 127 pc) (cond (Nat.ble 129 pc) (cond (Nat.ble 132 pc) ((132, .iload_n 2, 1, 2, 0, (0), (0), [], 0)) ((129, .getfield 259, 3, 12, 41, (0), (0), [], 1305))) (cond (Nat.ble 128 pc) ((128, .aload_n 0, 1, 0, 0, (0), (0), [], 0)) ((127, .aload_n 0, 1, 0, 0, (0), (0), [], 0)))) (cond (Nat.ble 123 pc) (cond (Nat.ble 124 pc) ((124, .putfield 277, 3, 12, 44, (0), (0), [], 1308)) ((123, .iconst 0, 1, 0, 0, (0), (0), [], 0))) ((122, .aload_n 0, 1, 0, 0, (0), (0), [], 0))))))) (cond (Nat.ble 58 pc) (cond (Nat.ble 87 pc) (cond (Nat.ble 102 pc) (cond (Nat.ble 112 pc) (cond (Nat.ble 116 pc) (cond (Nat.ble 119 pc) ((119, .ifCond .eq 86, 3, 205, 0, (0), (0), [], 0)) ((116, .invokestatic 274, 3, 166, 1, (0), (0), [], 1473))) (cond (Nat.ble 115 pc) ((115, .iload_n 1, 1, 1, 0, (0), (0), [], 0)) ((112, .goto 111, 3, 223, 0, (0), (0), [], 0)))) (cond (Nat.ble 106 pc) (cond (Nat.ble 109 pc) ((109, .putfield 265, 3, 12, 43, (0), (0), [], 1307)) ((106, .invokevirtual 271, 3, 165, 3, (0), (0), [], 1469))) (cond (Nat.ble 105 pc) ((105, .iload_n 2, 1, 2, 0, (0), (0), [], 0)) ((102, .getfield 259, 3, 12, 41, (0), (0), [], 1305))))) (cond (Nat.ble 96 pc) (cond (Nat.ble 100 pc) (cond (Nat.ble 101 pc) ((101, .aload_n 0, 1, 0, 0, (0), (0), [], 0)) ((100, .aload_n 0, 1, 0, 0, (0), (0), [], 0))) (cond (Nat.ble 99 pc) ((99, .aload_n 0, 1, 0, 0, (0), (0), [], 0)) ((96, .goto (-19), 3, 77, 0, (0), (0), [], 0)))) (cond (Nat.ble 90 pc) (cond (Nat.ble 93 pc) ((93, .iinc 2 1, 3, 2, 0, (1), (0), [], 0)) ((90, .ifCond .eq 9, 3, 99, 0, (0), (0), [], 0))) ((87, .invokestatic 268, 3, 164, 1, (0), (0), [], 1466))))) (cond (Nat.ble 71 pc) (cond (Nat.ble 79 pc) (cond (Nat.ble 83 pc) (cond (Nat.ble 84 pc) ((84, .invokevirtual 256, 3, 163, 2, (0), (0), [], 1462)) ((83, .iadd, 1, 0, 0, (0), (0), [], 0))) (cond (Nat.ble 82 pc) ((82, .iload_n 2, 1, 2, 0, (0), (0), [], 0)) ((79, .getfield 259, 3, 12, 41, (0), (0), [], 1305)))) (cond (Nat.ble 77 pc) (cond (Nat.ble 78 pc) ((78, .aload_n 0, 1, 0, 0, (0), (0), [], 0)) ((77, .aload_n 0, 1, 0, 0, (0), (0), [], 0))) (cond (Nat.ble 74 pc) ((74, .ifCond .eq 41, 3, 115, 0, (0), (0), [], 0)) ((71, .invokestatic 268, 3, 164, 1, (0), (0), [], 1466))))) (cond (Nat.ble 63 pc) (cond (Nat.ble 67 pc) (cond (Nat.ble 70 pc) ((70, .iload_n 1, 1, 1, 0, (0), (0), [], 0)) ((67, .goto 156, 3, 223, 0, (0), (0), [], 0))) (cond (Nat.ble 64 pc) ((64, .putfield 265, 3, 12, 43, (0), (0), [], 1307)) ((63, .iconst 0, 1, 0, 0, (0), (0), [], 0)))) (cond (Nat.ble 59 pc) (cond (Nat.ble 62 pc) ((62, .aload_n 0, 1, 0, 0, (0), (0), [], 0)) ((59, .ifCond .ge 11, 3, 70, 0, (0), (0), [], 0))) ((58, .iload_n 1, 1, 1, 0, (0), (0), [], 0)))))) (cond (Nat.ble 31 pc) (cond (Nat.ble 44 pc) (cond (Nat.ble 52 pc) (cond (Nat.ble 56 pc) (cond (Nat.ble 57 pc) ((57, .istore_n 2, 1, 2, 0, (0), (0), [], 0)) ((56, .iconst 0, 1, 0, 0, (0), (0), [], 0))) (cond (Nat.ble 55 pc) ((55, .istore_n 1, 1, 1, 0, (0), (0), [], 0)) ((52, .invokevirtual 256, 3, 163, 2, (0), (0), [], 1462)))) (cond (Nat.ble 48 pc) (cond (Nat.ble 49 pc) ((49, .getfield 259, 3, 12, 41, (0), (0), [], 1305)) ((48, .aload_n 0, 1, 0, 0, (0), (0), [], 0))) (cond (Nat.ble 47 pc) ((47, .aload_n 0, 1, 0, 0, (0), (0), [], 0)) ((44, .putfield 262, 3, 12, 42, (0), (0), [], 1306))))) (cond (Nat.ble 36 pc) (cond (Nat.ble 40 pc) (cond (Nat.ble 41 pc) ((41, .getfield 259, 3, 12, 41, (0), (0), [], 1305)) ((40, .aload_n 0, 1, 0, 0, (0), (0), [], 0))) (cond (Nat.ble 39 pc) ((39, .aload_n 0, 1, 0, 0, (0), (0), [], 0)) ((36, .goto (-36), 3, 0, 0, (0), (0), [], 0)))) (cond (Nat.ble 32 pc) (cond (Nat.ble 33 pc) ((33, .putfield 259, 3, 12, 41, (0), (0), [], 1305)) ((32, .iadd, 1, 0, 0, (0), (0), [], 0))) ((31, .iconst 1, 1, 0, 0, (1), (0), [], 0))))) (cond (Nat.ble 14 pc) (cond (Nat.ble 23 pc) (cond (Nat.ble 27 pc) (cond (Nat.ble 28 pc) ((28, .getfield 259, 3, 12, 41, (0), (0), [], 1305)) ((27, .dup, 1, 0, 0, (0), (0), [], 0))) (cond (Nat.ble 26 pc) ((26, .aload_n 0, 1, 0, 0, (0), (0), [], 0)) ((23, .if_icmp .ne 16, 3, 39, 0, (0), (0), [], 0)))) (cond (Nat.ble 18 pc) (cond (Nat.ble 21 pc) ((21, .bipush 10, 2, 0, 0, (10), (0), [], 0)) ((18, .invokevirtual 256, 3, 163, 2, (0), (0), [], 1462))) (cond (Nat.ble 15 pc) ((15, .getfield 259, 3, 12, 41, (0), (0), [], 1305)) ((14, .aload_n 0, 1, 0, 0, (0), (0), [], 0))))) (cond (Nat.ble 5 pc) (cond (Nat.ble 10 pc) (cond (Nat.ble 13 pc) ((13, .aload_n 0, 1, 0, 0, (0), (0), [], 0)) ((10, .if_icmp .eq 16, 3, 26, 0, (0), (0), [], 0))) (cond (Nat.ble 8 pc) ((8, .bipush 32, 2, 0, 0, (32), (0), [], 0)) ((5, .invokevirtual 256, 3, 163, 2, (0), (0), [], 1462)))) (cond (Nat.ble 1 pc) (cond (Nat.ble 2 pc) ((2, .getfield 259, 3, 12, 41, (0), (0), [], 1305)) ((1, .aload_n 0, 1, 0, 0, (0), (0), [], 0))) ((0, .aload_n 0, 1, 0, 0, (0), (0), [], 0)))))))
def pg_163 (pc : Nat) : RI := cond (Nat.ble 12 pc) (cond (Nat.ble 17 pc) (cond (Nat.ble 21 pc) (cond (Nat.ble 22 pc) ((22, .ireturn, 1, 0, 0, (0), (0), [], 0)) ((21, .iconst (-1), 1, 0, 0, (-1), (0), [], 0))) (cond (Nat.ble 18 pc) ((18, .goto 4, 3, 22, 0, (0), (0), [], 0)) ((17, .iand, 1, 0, 0, (0), (0), [], 0)))) (cond (Nat.ble 13 pc) (cond (Nat.ble 14 pc) ((14, .sipush 255, 3, 0, 0, (255), (0), [], 0)) ((13, .baload, 1, 0, 0, (0), (0), [], 0))) ((12, .iload_n 1, 1, 1, 0, (0), (0), [], 0)))) (cond (Nat.ble 5 pc) (cond (Nat.ble 8 pc) (cond (Nat.ble 9 pc) ((9, .getfield 212, 3, 12, 31, (0), (0), [], 1295)) ((8, .aload_n 0, 1, 0, 0, (0), (0), [], 0))) ((5, .if_icmp .ge 16, 3, 21, 0, (0), (0), [], 0))) (cond (Nat.ble 1 pc) (cond (Nat.ble 2 pc) ((2, .getfield 253, 3, 12, 32, (0), (0), [], 1296)) ((1, .aload_n 0, 1, 0, 0, (0), (0), [], 0))) ((0, .iload_n 1, 1, 1, 0, (0), (0), [], 0))))
def pg_164 (pc : Nat) : RI := cond (Nat.ble 9 pc) (cond (Nat.ble 13 pc) (cond (Nat.ble 16 pc) (cond (Nat.ble 17 pc) ((17, .ireturn, 1, 1, 0, (0), (0), [], 0)) ((16, .iconst 0, 1, 0, 0, (0), (0), [], 0))) ((13, .goto 4, 3, 17, 0, (0), (0), [], 0))) (cond (Nat.ble 12 pc) ((12, .iconst 1, 1, 0, 0, (1), (0), [], 0)) ((9, .if_icmp .gt 7, 3, 16, 0, (0), (0), [], 0)))) (cond (Nat.ble 3 pc) (cond (Nat.ble 6 pc) (cond (Nat.ble 7 pc) ((7, .bipush 122, 2, 0, 0, (122), (0), [], 0)) ((6, .iload_n 0, 1, 0, 0, (0), (0), [], 0))) ((3, .if_icmp .lt 13, 3, 16, 0, (0), (0), [], 0))) (cond (Nat.ble 1 pc) ((1, .bipush 97, 2, 0, 0, (97), (0), [], 0)) ((0, .iload_n 0, 1, 0, 0, (0), (0), [], 0))))
def pg_165 (pc : Nat) : RI := cond (Nat.ble 44 pc) (cond (Nat.ble 68 pc) (cond (Nat.ble 84 pc) (cond (Nat.ble 87 pc) (cond (Nat.ble 93 pc) (cond (Nat.ble 94 pc) ((94, .ireturn, 1, 0, 0, (0), (0), [], 0)) ((93, .iconst (-1), 1, 0, 0, (-1), (0), [], 0))) (cond (Nat.ble 90 pc) ((90, .goto (-88), 3, 2, 0, (0), (0), [], 0)) ((87, .iinc 3 1, 3, 3, 0, (1), (0), [], 0)))) (cond (Nat.ble 85 pc) (cond (Nat.ble 86 pc) ((86, .ireturn, 1, 0, 0, (0), (0), [], 0)) ((85, .iadd, 1, 0, 0, (0), (0), [], 0))) ((84, .iload_n 3, 1, 3, 0, (0), (0), [], 0)))) (cond (Nat.ble 74 pc) (cond (Nat.ble 79 pc) (cond (Nat.ble 82 pc) ((82, .bipush 100, 2, 0, 0, (100), (0), [], 0)) ((79, .ifCond .eq 8, 3, 87, 0, (0), (0), [], 0))) (cond (Nat.ble 77 pc) ((77, .iload 4, 2, 4, 0, (0), (0), [], 0)) ((74, .goto (-46), 3, 28, 0, (0), (0), [], 0)))) (cond (Nat.ble 69 pc) (cond (Nat.ble 71 pc) ((71, .iinc 5 1, 3, 5, 0, (1), (0), [], 0)) ((69, .istore 4, 2, 4, 0, (0), (0), [], 0))) ((68, .iconst 0, 1, 0, 0, (0), (0), [], 0))))) (cond (Nat.ble 56 pc) (cond (Nat.ble 60 pc) (cond (Nat.ble 64 pc) (cond (Nat.ble 65 pc) ((65, .goto 4, 3, 69, 0, (0), (0), [], 0)) ((64, .iconst 1, 1, 0, 0, (1), (0), [], 0))) (cond (Nat.ble 61 pc) ((61, .if_icmp .ne 7, 3, 68, 0, (0), (0), [], 0)) ((60, .caload, 1, 0, 0, (0), (0), [], 0)))) (cond (Nat.ble 57 pc) (cond (Nat.ble 59 pc) ((59, .iadd, 1, 0, 0, (0), (0), [], 0)) ((57, .iload 5, 2, 5, 0, (0), (0), [], 0))) ((56, .iaload, 1, 0, 0, (0), (0), [], 0)))) (cond (Nat.ble 51 pc) (cond (Nat.ble 52 pc) (cond (Nat.ble 55 pc) ((55, .iload_n 3, 1, 3, 0, (0), (0), [], 0)) ((52, .getfield 229, 3, 12, 39, (0), (0), [], 1303))) ((51, .aload_n 0, 1, 0, 0, (0), (0), [], 0))) (cond (Nat.ble 47 pc) (cond (Nat.ble 48 pc) ((48, .getfield 225, 3, 12, 38, (0), (0), [], 1302)) ((47, .aload_n 0, 1, 0, 0, (0), (0), [], 0))) ((44, .invokevirtual 256, 3, 163, 2, (0), (0), [], 1462)))))) (cond (Nat.ble 22 pc) (cond (Nat.ble 31 pc) (cond (Nat.ble 39 pc) (cond (Nat.ble 41 pc) (cond (Nat.ble 43 pc) ((43, .iadd, 1, 0, 0, (0), (0), [], 0)) ((41, .iload 5, 2, 5, 0, (0), (0), [], 0))) (cond (Nat.ble 40 pc) ((40, .iload_n 1, 1, 1, 0, (0), (0), [], 0)) ((39, .aload_n 0, 1, 0, 0, (0), (0), [], 0)))) (cond (Nat.ble 34 pc) (cond (Nat.ble 36 pc) ((36, .ifCond .eq 41, 3, 77, 0, (0), (0), [], 0)) ((34, .iload 4, 2, 4, 0, (0), (0), [], 0))) ((31, .if_icmp .ge 46, 3, 77, 0, (0), (0), [], 0)))) (cond (Nat.ble 26 pc) (cond (Nat.ble 28 pc) (cond (Nat.ble 30 pc) ((30, .iload_n 2, 1, 2, 0, (0), (0), [], 0)) ((28, .iload 5, 2, 5, 0, (0), (0), [], 0))) ((26, .istore 5, 2, 5, 0, (0), (0), [], 0))) (cond (Nat.ble 23 pc) (cond (Nat.ble 25 pc) ((25, .iconst 0, 1, 0, 0, (0), (0), [], 0)) ((23, .istore 4, 2, 4, 0, (0), (0), [], 0))) ((22, .iconst 0, 1, 0, 0, (0), (0), [], 0))))) (cond (Nat.ble 9 pc) (cond (Nat.ble 14 pc) (cond (Nat.ble 18 pc) (cond (Nat.ble 19 pc) ((19, .goto 4, 3, 23, 0, (0), (0), [], 0)) ((18, .iconst 1, 1, 0, 0, (1), (0), [], 0))) (cond (Nat.ble 15 pc) ((15, .if_icmp .ne 7, 3, 22, 0, (0), (0), [], 0)) ((14, .iload_n 2, 1, 2, 0, (0), (0), [], 0)))) (cond (Nat.ble 12 pc) (cond (Nat.ble 13 pc) ((13, .iaload, 1, 0, 0, (0), (0), [], 0)) ((12, .iload_n 3, 1, 3, 0, (0), (0), [], 0))) ((9, .getfield 232, 3, 12, 40, (0), (0), [], 1304)))) (cond (Nat.ble 3 pc) (cond (Nat.ble 5 pc) (cond (Nat.ble 8 pc) ((8, .aload_n 0, 1, 0, 0, (0), (0), [], 0)) ((5, .if_icmp .ge 88, 3, 93, 0, (0), (0), [], 0))) ((3, .bipush 12, 2, 0, 0, (12), (0), [], 0))) (cond (Nat.ble 1 pc) (cond (Nat.ble 2 pc) ((2, .iload_n 3, 1, 3, 0, (0), (0), [], 0)) ((1, .istore_n 3, 1, 3, 0, (0), (0), [], 0))) ((0, .iconst 0, 1, 0, 0, (0), (0), [], 0))))))
def pg_166 (pc : Nat) : RI := cond (Nat.ble 9 pc) (cond (Nat.ble 13 pc) (cond (Nat.ble 16 pc) (cond (Nat.ble 17 pc) ((17, .ireturn, 1, 1, 0, (0), (0), [], 0)) ((16, .iconst 0, 1, 0, 0, (0), (0), [], 0))) ((13, .goto 4, 3, 17, 0, (0), (0), [], 0))) (cond (Nat.ble 12 pc) ((12, .iconst 1, 1, 0, 0, (1), (0), [], 0)) ((9, .if_icmp .gt 7, 3, 16, 0, (0), (0), [], 0)))) (cond (Nat.ble 3 pc) (cond (Nat.ble 6 pc) (cond (Nat.ble 7 pc) ((7, .bipush 57, 2, 0, 0, (57), (0), [], 0)) ((6, .iload_n 0, 1, 0, 0, (0), (0), [], 0))) ((3, .if_icmp .lt 13, 3, 16, 0, (0), (0), [], 0))) (cond (Nat.ble 1 pc) ((1, .bipush 48, 2, 0, 0, (48), (0), [], 0)) ((0, .iload_n 0, 1, 0, 0, (0), (0), [], 0))))
def pg_167 (pc : Nat) : RI := cond (Nat.ble 27 pc) (cond (Nat.ble 42 pc) (cond (Nat.ble 48 pc) (cond (Nat.ble 52 pc) (cond (Nat.ble 53 pc) ((53, .ireturn, 1, 1, 0, (0), (0), [], 0)) ((52, .iconst 0, 1, 0, 0, (0), (0), [], 0))) (cond (Nat.ble 49 pc) ((49, .goto 4, 3, 53, 0, (0), (0), [], 0)) ((48, .iconst 1, 1, 0, 0, (1), (0), [], 0)))) (cond (Nat.ble 43 pc) (cond (Nat.ble 45 pc) ((45, .if_icmp .ne 7, 3, 52, 0, (0), (0), [], 0)) ((43, .bipush 61, 2, 0, 0, (61), (0), [], 0))) ((42, .iload_n 0, 1, 0, 0, (0), (0), [], 0)))) (cond (Nat.ble 33 pc) (cond (Nat.ble 37 pc) (cond (Nat.ble 39 pc) ((39, .if_icmp .eq 9, 3, 48, 0, (0), (0), [], 0)) ((37, .bipush 60, 2, 0, 0, (60), (0), [], 0))) (cond (Nat.ble 36 pc) ((36, .iload_n 0, 1, 0, 0, (0), (0), [], 0)) ((33, .if_icmp .eq 15, 3, 48, 0, (0), (0), [], 0)))) (cond (Nat.ble 30 pc) (cond (Nat.ble 31 pc) ((31, .bipush 42, 2, 0, 0, (42), (0), [], 0)) ((30, .iload_n 0, 1, 0, 0, (0), (0), [], 0))) ((27, .if_icmp .eq 21, 3, 48, 0, (0), (0), [], 0))))) (cond (Nat.ble 13 pc) (cond (Nat.ble 19 pc) (cond (Nat.ble 24 pc) (cond (Nat.ble 25 pc) ((25, .bipush 45, 2, 0, 0, (45), (0), [], 0)) ((24, .iload_n 0, 1, 0, 0, (0), (0), [], 0))) (cond (Nat.ble 21 pc) ((21, .if_icmp .eq 27, 3, 48, 0, (0), (0), [], 0)) ((19, .bipush 43, 2, 0, 0, (43), (0), [], 0)))) (cond (Nat.ble 15 pc) (cond (Nat.ble 18 pc) ((18, .iload_n 0, 1, 0, 0, (0), (0), [], 0)) ((15, .if_icmp .eq 33, 3, 48, 0, (0), (0), [], 0))) ((13, .bipush 59, 2, 0, 0, (59), (0), [], 0)))) (cond (Nat.ble 6 pc) (cond (Nat.ble 9 pc) (cond (Nat.ble 12 pc) ((12, .iload_n 0, 1, 0, 0, (0), (0), [], 0)) ((9, .if_icmp .eq 39, 3, 48, 0, (0), (0), [], 0))) (cond (Nat.ble 7 pc) ((7, .bipush 41, 2, 0, 0, (41), (0), [], 0)) ((6, .iload_n 0, 1, 0, 0, (0), (0), [], 0)))) (cond (Nat.ble 1 pc) (cond (Nat.ble 3 pc) ((3, .if_icmp .eq 45, 3, 48, 0, (0), (0), [], 0)) ((1, .bipush 40, 2, 0, 0, (40), (0), [], 0))) ((0, .iload_n 0, 1, 0, 0, (0), (0), [], 0)))))
def pg_168 (pc : Nat) : RI := cond (Nat.ble 188 pc) (cond (Nat.ble 277 pc) (cond (Nat.ble 324 pc) (cond (Nat.ble 346 pc) (cond (Nat.ble 355 pc) (cond (Nat.ble 362 pc) (cond (Nat.ble 363 pc) (cond (Nat.ble 364 pc) ((364, .goto (-348), 3, 16, 0, (0), (0), [], 0)) ((363, .istore_n 3, 1, 3, 0, (0), (0), [], 0))) ((362, .iconst 0, 1, 0, 0, (0), (0), [], 0))) (cond (Nat.ble 358 pc) (cond (Nat.ble 359 pc) ((359, .goto 4, 3, 363, 0, (0), (0), [], 0)) ((358, .iconst 1, 1, 0, 0, (1), (0), [], 0))) ((355, .if_icmp .ge 7, 3, 362, 0, (0), (0), [], 0)))) (cond (Nat.ble 351 pc) (cond (Nat.ble 352 pc) (cond (Nat.ble 354 pc) ((354, .iconst 3, 1, 0, 0, (3), (0), [], 0)) ((352, .iload 4, 2, 4, 0, (0), (0), [], 0))) ((351, .istore_n 2, 1, 2, 0, (0), (0), [], 0))) (cond (Nat.ble 347 pc) (cond (Nat.ble 350 pc) ((350, .iconst 1, 1, 0, 0, (1), (0), [], 0)) ((347, .putfield 283, 3, 12, 46, (0), (0), [], 1310))) ((346, .iadd, 1, 0, 0, (0), (0), [], 0))))) (cond (Nat.ble 336 pc) (cond (Nat.ble 341 pc) (cond (Nat.ble 342 pc) (cond (Nat.ble 345 pc) ((345, .iconst 1, 1, 0, 0, (1), (0), [], 0)) ((342, .getfield 283, 3, 12, 46, (0), (0), [], 1310))) ((341, .dup, 1, 0, 0, (0), (0), [], 0))) (cond (Nat.ble 339 pc) (cond (Nat.ble 340 pc) ((340, .aload_n 0, 1, 0, 0, (0), (0), [], 0)) ((339, .iastore, 1, 0, 0, (0), (0), [], 0))) ((336, .getfield 265, 3, 12, 43, (0), (0), [], 1307)))) (cond (Nat.ble 331 pc) (cond (Nat.ble 332 pc) (cond (Nat.ble 335 pc) ((335, .aload_n 0, 1, 0, 0, (0), (0), [], 0)) ((332, .getfield 283, 3, 12, 46, (0), (0), [], 1310))) ((331, .aload_n 0, 1, 0, 0, (0), (0), [], 0))) (cond (Nat.ble 327 pc) (cond (Nat.ble 328 pc) ((328, .getfield 235, 3, 12, 45, (0), (0), [], 1309)) ((327, .aload_n 0, 1, 0, 0, (0), (0), [], 0))) ((324, .invokevirtual 296, 3, 170, 3, (0), (0), [], 1487)))))) (cond (Nat.ble 302 pc) (cond (Nat.ble 315 pc) (cond (Nat.ble 320 pc) (cond (Nat.ble 321 pc) (cond (Nat.ble 322 pc) ((322, .iload 4, 2, 4, 0, (0), (0), [], 0)) ((321, .iload_n 1, 1, 1, 0, (0), (0), [], 0))) ((320, .aload_n 0, 1, 0, 0, (0), (0), [], 0))) (cond (Nat.ble 318 pc) (cond (Nat.ble 319 pc) ((319, .ireturn, 1, 1, 0, (0), (0), [], 0)) ((318, .iconst 0, 1, 0, 0, (0), (0), [], 0))) ((315, .ifCond .eq 5, 3, 320, 0, (0), (0), [], 0)))) (cond (Nat.ble 308 pc) (cond (Nat.ble 311 pc) (cond (Nat.ble 312 pc) ((312, .invokevirtual 302, 3, 173, 1, (0), (0), [], 1498)) ((311, .aload_n 0, 1, 0, 0, (0), (0), [], 0))) ((308, .if_icmp .ne 12, 3, 320, 0, (0), (0), [], 0))) (cond (Nat.ble 305 pc) (cond (Nat.ble 307 pc) ((307, .iconst 4, 1, 0, 0, (4), (0), [], 0)) ((305, .iload 4, 2, 4, 0, (0), (0), [], 0))) ((302, .ifCond .eq 16, 3, 318, 0, (0), (0), [], 0))))) (cond (Nat.ble 288 pc) (cond (Nat.ble 295 pc) (cond (Nat.ble 298 pc) (cond (Nat.ble 300 pc) ((300, .iload 4, 2, 4, 0, (0), (0), [], 0)) ((298, .istore 4, 2, 4, 0, (0), (0), [], 0))) ((295, .invokestatic 286, 3, 171, 1, (0), (0), [], 1491))) (cond (Nat.ble 291 pc) (cond (Nat.ble 292 pc) ((292, .getfield 265, 3, 12, 43, (0), (0), [], 1307)) ((291, .aload_n 0, 1, 0, 0, (0), (0), [], 0))) ((288, .goto 10, 3, 298, 0, (0), (0), [], 0)))) (cond (Nat.ble 282 pc) (cond (Nat.ble 284 pc) (cond (Nat.ble 287 pc) ((287, .iconst 0, 1, 0, 0, (0), (0), [], 0)) ((284, .if_icmp .ne 7, 3, 291, 0, (0), (0), [], 0))) ((282, .bipush 111, 2, 0, 0, (111), (0), [], 0))) (cond (Nat.ble 278 pc) (cond (Nat.ble 279 pc) ((279, .getfield 265, 3, 12, 43, (0), (0), [], 1307)) ((278, .aload_n 0, 1, 0, 0, (0), (0), [], 0))) ((277, .ireturn, 1, 1, 0, (0), (0), [], 0))))))) (cond (Nat.ble 232 pc) (cond (Nat.ble 253 pc) (cond (Nat.ble 267 pc) (cond (Nat.ble 272 pc) (cond (Nat.ble 273 pc) (cond (Nat.ble 276 pc) ((276, .iconst 1, 1, 0, 0, (1), (0), [], 0)) ((273, .invokevirtual 296, 3, 170, 3, (0), (0), [], 1487))) ((272, .iconst 1, 1, 0, 0, (1), (0), [], 0))) (cond (Nat.ble 270 pc) (cond (Nat.ble 271 pc) ((271, .iload_n 1, 1, 1, 0, (0), (0), [], 0)) ((270, .aload_n 0, 1, 0, 0, (0), (0), [], 0))) ((267, .ifCond .ne 11, 3, 278, 0, (0), (0), [], 0)))) (cond (Nat.ble 261 pc) (cond (Nat.ble 262 pc) (cond (Nat.ble 264 pc) ((264, .invokevirtual 299, 3, 172, 2, (0), (0), [], 1494)) ((262, .bipush 40, 2, 0, 0, (40), (0), [], 0))) ((261, .aload_n 0, 1, 0, 0, (0), (0), [], 0))) (cond (Nat.ble 256 pc) (cond (Nat.ble 258 pc) ((258, .if_icmp .ne 20, 3, 278, 0, (0), (0), [], 0)) ((256, .bipush 59, 2, 0, 0, (59), (0), [], 0))) ((253, .getfield 265, 3, 12, 43, (0), (0), [], 1307))))) (cond (Nat.ble 242 pc) (cond (Nat.ble 246 pc) (cond (Nat.ble 249 pc) (cond (Nat.ble 252 pc) ((252, .aload_n 0, 1, 0, 0, (0), (0), [], 0)) ((249, .goto (-233), 3, 16, 0, (0), (0), [], 0))) ((246, .invokevirtual 296, 3, 170, 3, (0), (0), [], 1487))) (cond (Nat.ble 243 pc) (cond (Nat.ble 244 pc) ((244, .bipush 7, 2, 0, 0, (7), (0), [], 0)) ((243, .iload_n 1, 1, 1, 0, (0), (0), [], 0))) ((242, .aload_n 0, 1, 0, 0, (0), (0), [], 0)))) (cond (Nat.ble 237 pc) (cond (Nat.ble 238 pc) (cond (Nat.ble 239 pc) ((239, .putfield 283, 3, 12, 46, (0), (0), [], 1310)) ((238, .isub, 1, 0, 0, (0), (0), [], 0))) ((237, .iconst 1, 1, 0, 0, (1), (0), [], 0))) (cond (Nat.ble 233 pc) (cond (Nat.ble 234 pc) ((234, .getfield 283, 3, 12, 46, (0), (0), [], 1310)) ((233, .dup, 1, 0, 0, (0), (0), [], 0))) ((232, .aload_n 0, 1, 0, 0, (0), (0), [], 0)))))) (cond (Nat.ble 208 pc) (cond (Nat.ble 220 pc) (cond (Nat.ble 227 pc) (cond (Nat.ble 228 pc) (cond (Nat.ble 229 pc) ((229, .invokevirtual 296, 3, 170, 3, (0), (0), [], 1487)) ((228, .iconst 1, 1, 0, 0, (1), (0), [], 0))) ((227, .iload_n 1, 1, 1, 0, (0), (0), [], 0))) (cond (Nat.ble 223 pc) (cond (Nat.ble 226 pc) ((226, .aload_n 0, 1, 0, 0, (0), (0), [], 0)) ((223, .ifCond .eq 29, 3, 252, 0, (0), (0), [], 0))) ((220, .invokevirtual 299, 3, 172, 2, (0), (0), [], 1494)))) (cond (Nat.ble 214 pc) (cond (Nat.ble 217 pc) (cond (Nat.ble 218 pc) ((218, .bipush 40, 2, 0, 0, (40), (0), [], 0)) ((217, .aload_n 0, 1, 0, 0, (0), (0), [], 0))) ((214, .if_icmp .ne 38, 3, 252, 0, (0), (0), [], 0))) (cond (Nat.ble 209 pc) (cond (Nat.ble 212 pc) ((212, .bipush 41, 2, 0, 0, (41), (0), [], 0)) ((209, .getfield 265, 3, 12, 43, (0), (0), [], 1307))) ((208, .aload_n 0, 1, 0, 0, (0), (0), [], 0))))) (cond (Nat.ble 198 pc) (cond (Nat.ble 203 pc) (cond (Nat.ble 204 pc) (cond (Nat.ble 205 pc) ((205, .goto (-189), 3, 16, 0, (0), (0), [], 0)) ((204, .ireturn, 1, 1, 0, (0), (0), [], 0))) ((203, .iconst 0, 1, 0, 0, (0), (0), [], 0))) (cond (Nat.ble 199 pc) (cond (Nat.ble 200 pc) ((200, .goto 5, 3, 205, 0, (0), (0), [], 0)) ((199, .istore_n 2, 1, 2, 0, (0), (0), [], 0))) ((198, .iconst 0, 1, 0, 0, (0), (0), [], 0)))) (cond (Nat.ble 192 pc) (cond (Nat.ble 193 pc) (cond (Nat.ble 195 pc) ((195, .invokevirtual 296, 3, 170, 3, (0), (0), [], 1487)) ((193, .bipush 7, 2, 0, 0, (7), (0), [], 0))) ((192, .iload_n 1, 1, 1, 0, (0), (0), [], 0))) (cond (Nat.ble 191 pc) ((191, .aload_n 0, 1, 0, 0, (0), (0), [], 0)) ((188, .invokevirtual 247, 3, 158, 4, (0), (0), [], 1260)))))))) (cond (Nat.ble 89 pc) (cond (Nat.ble 136 pc) (cond (Nat.ble 164 pc) (cond (Nat.ble 174 pc) (cond (Nat.ble 181 pc) (cond (Nat.ble 184 pc) (cond (Nat.ble 187 pc) ((187, .iconst 0, 1, 0, 0, (0), (0), [], 0)) ((184, .goto 4, 3, 188, 0, (0), (0), [], 0))) ((181, .getfield 277, 3, 12, 44, (0), (0), [], 1308))) (cond (Nat.ble 177 pc) (cond (Nat.ble 180 pc) ((180, .aload_n 0, 1, 0, 0, (0), (0), [], 0)) ((177, .if_icmp .ne 10, 3, 187, 0, (0), (0), [], 0))) ((174, .sipush 200, 3, 0, 0, (200), (0), [], 0)))) (cond (Nat.ble 167 pc) (cond (Nat.ble 170 pc) (cond (Nat.ble 171 pc) ((171, .getfield 265, 3, 12, 43, (0), (0), [], 1307)) ((170, .aload_n 0, 1, 0, 0, (0), (0), [], 0))) ((167, .getfield 265, 3, 12, 43, (0), (0), [], 1307))) (cond (Nat.ble 165 pc) (cond (Nat.ble 166 pc) ((166, .aload_n 0, 1, 0, 0, (0), (0), [], 0)) ((165, .iload_n 1, 1, 1, 0, (0), (0), [], 0))) ((164, .aload_n 0, 1, 0, 0, (0), (0), [], 0))))) (cond (Nat.ble 150 pc) (cond (Nat.ble 156 pc) (cond (Nat.ble 159 pc) (cond (Nat.ble 161 pc) ((161, .if_icmp .ge 42, 3, 203, 0, (0), (0), [], 0)) ((159, .bipush 106, 2, 0, 0, (106), (0), [], 0))) ((156, .getfield 265, 3, 12, 43, (0), (0), [], 1307))) (cond (Nat.ble 152 pc) (cond (Nat.ble 155 pc) ((155, .aload_n 0, 1, 0, 0, (0), (0), [], 0)) ((152, .if_icmp .lt 51, 3, 203, 0, (0), (0), [], 0))) ((150, .bipush 100, 2, 0, 0, (100), (0), [], 0)))) (cond (Nat.ble 143 pc) (cond (Nat.ble 146 pc) (cond (Nat.ble 147 pc) ((147, .getfield 265, 3, 12, 43, (0), (0), [], 1307)) ((146, .aload_n 0, 1, 0, 0, (0), (0), [], 0))) ((143, .if_icmp .eq 21, 3, 164, 0, (0), (0), [], 0))) (cond (Nat.ble 137 pc) (cond (Nat.ble 140 pc) ((140, .sipush 200, 3, 0, 0, (200), (0), [], 0)) ((137, .getfield 265, 3, 12, 43, (0), (0), [], 1307))) ((136, .aload_n 0, 1, 0, 0, (0), (0), [], 0)))))) (cond (Nat.ble 110 pc) (cond (Nat.ble 123 pc) (cond (Nat.ble 128 pc) (cond (Nat.ble 131 pc) (cond (Nat.ble 133 pc) ((133, .ifCond .ne 70, 3, 203, 0, (0), (0), [], 0)) ((131, .iload 4, 2, 4, 0, (0), (0), [], 0))) ((128, .goto 77, 3, 205, 0, (0), (0), [], 0))) (cond (Nat.ble 126 pc) (cond (Nat.ble 127 pc) ((127, .istore_n 3, 1, 3, 0, (0), (0), [], 0)) ((126, .iconst 0, 1, 0, 0, (0), (0), [], 0))) ((123, .goto 4, 3, 127, 0, (0), (0), [], 0)))) (cond (Nat.ble 117 pc) (cond (Nat.ble 119 pc) (cond (Nat.ble 122 pc) ((122, .iconst 1, 1, 0, 0, (1), (0), [], 0)) ((119, .if_icmp .eq 7, 3, 126, 0, (0), (0), [], 0))) ((117, .bipush 45, 2, 0, 0, (45), (0), [], 0))) (cond (Nat.ble 113 pc) (cond (Nat.ble 114 pc) ((114, .getfield 265, 3, 12, 43, (0), (0), [], 1307)) ((113, .aload_n 0, 1, 0, 0, (0), (0), [], 0))) ((110, .putfield 283, 3, 12, 46, (0), (0), [], 1310))))) (cond (Nat.ble 102 pc) (cond (Nat.ble 105 pc) (cond (Nat.ble 108 pc) (cond (Nat.ble 109 pc) ((109, .iadd, 1, 0, 0, (0), (0), [], 0)) ((108, .iconst 1, 1, 0, 0, (1), (0), [], 0))) ((105, .getfield 283, 3, 12, 46, (0), (0), [], 1310))) (cond (Nat.ble 103 pc) (cond (Nat.ble 104 pc) ((104, .dup, 1, 0, 0, (0), (0), [], 0)) ((103, .aload_n 0, 1, 0, 0, (0), (0), [], 0))) ((102, .iastore, 1, 0, 0, (0), (0), [], 0)))) (cond (Nat.ble 95 pc) (cond (Nat.ble 98 pc) (cond (Nat.ble 99 pc) ((99, .getfield 265, 3, 12, 43, (0), (0), [], 1307)) ((98, .aload_n 0, 1, 0, 0, (0), (0), [], 0))) ((95, .goto 7, 3, 102, 0, (0), (0), [], 0))) (cond (Nat.ble 92 pc) ((92, .sipush 300, 3, 0, 0, (300), (0), [], 0)) ((89, .if_icmp .ne 9, 3, 98, 0, (0), (0), [], 0))))))) (cond (Nat.ble 39 pc) (cond (Nat.ble 64 pc) (cond (Nat.ble 76 pc) (cond (Nat.ble 83 pc) (cond (Nat.ble 84 pc) (cond (Nat.ble 87 pc) ((87, .bipush 45, 2, 0, 0, (45), (0), [], 0)) ((84, .getfield 265, 3, 12, 43, (0), (0), [], 1307))) ((83, .aload_n 0, 1, 0, 0, (0), (0), [], 0))) (cond (Nat.ble 79 pc) (cond (Nat.ble 80 pc) ((80, .getfield 283, 3, 12, 46, (0), (0), [], 1310)) ((79, .aload_n 0, 1, 0, 0, (0), (0), [], 0))) ((76, .getfield 235, 3, 12, 45, (0), (0), [], 1309)))) (cond (Nat.ble 71 pc) (cond (Nat.ble 72 pc) (cond (Nat.ble 75 pc) ((75, .aload_n 0, 1, 0, 0, (0), (0), [], 0)) ((72, .if_icmp .ge 59, 3, 131, 0, (0), (0), [], 0))) ((71, .iconst 5, 1, 0, 0, (5), (0), [], 0))) (cond (Nat.ble 67 pc) (cond (Nat.ble 68 pc) ((68, .invokevirtual 292, 3, 169, 1, (0), (0), [], 1483)) ((67, .aload_n 0, 1, 0, 0, (0), (0), [], 0))) ((64, .ifCond .eq 67, 3, 131, 0, (0), (0), [], 0))))) (cond (Nat.ble 52 pc) (cond (Nat.ble 59 pc) (cond (Nat.ble 60 pc) (cond (Nat.ble 62 pc) ((62, .iload 4, 2, 4, 0, (0), (0), [], 0)) ((60, .istore 4, 2, 4, 0, (0), (0), [], 0))) ((59, .iconst 0, 1, 0, 0, (0), (0), [], 0))) (cond (Nat.ble 55 pc) (cond (Nat.ble 56 pc) ((56, .goto 4, 3, 60, 0, (0), (0), [], 0)) ((55, .iconst 1, 1, 0, 0, (1), (0), [], 0))) ((52, .ifCond .eq 7, 3, 59, 0, (0), (0), [], 0)))) (cond (Nat.ble 46 pc) (cond (Nat.ble 48 pc) (cond (Nat.ble 51 pc) ((51, .iload_n 3, 1, 3, 0, (0), (0), [], 0)) ((48, .if_icmp .ne 11, 3, 59, 0, (0), (0), [], 0))) ((46, .bipush 111, 2, 0, 0, (111), (0), [], 0))) (cond (Nat.ble 42 pc) (cond (Nat.ble 43 pc) ((43, .getfield 265, 3, 12, 43, (0), (0), [], 1307)) ((42, .aload_n 0, 1, 0, 0, (0), (0), [], 0))) ((39, .if_icmp .eq 16, 3, 55, 0, (0), (0), [], 0)))))) (cond (Nat.ble 15 pc) (cond (Nat.ble 25 pc) (cond (Nat.ble 33 pc) (cond (Nat.ble 34 pc) (cond (Nat.ble 37 pc) ((37, .bipush 45, 2, 0, 0, (45), (0), [], 0)) ((34, .getfield 265, 3, 12, 43, (0), (0), [], 1307))) ((33, .aload_n 0, 1, 0, 0, (0), (0), [], 0))) (cond (Nat.ble 28 pc) (cond (Nat.ble 30 pc) ((30, .if_icmp .eq 25, 3, 55, 0, (0), (0), [], 0)) ((28, .bipush 40, 2, 0, 0, (40), (0), [], 0))) ((25, .getfield 265, 3, 12, 43, (0), (0), [], 1307)))) (cond (Nat.ble 20 pc) (cond (Nat.ble 21 pc) (cond (Nat.ble 24 pc) ((24, .aload_n 0, 1, 0, 0, (0), (0), [], 0)) ((21, .ifCond .eq 187, 3, 208, 0, (0), (0), [], 0))) ((20, .iload_n 2, 1, 2, 0, (0), (0), [], 0))) (cond (Nat.ble 16 pc) (cond (Nat.ble 17 pc) ((17, .invokevirtual 289, 3, 162, 1, (0), (0), [], 1458)) ((16, .aload_n 0, 1, 0, 0, (0), (0), [], 0))) ((15, .istore_n 3, 1, 3, 0, (0), (0), [], 0))))) (cond (Nat.ble 7 pc) (cond (Nat.ble 12 pc) (cond (Nat.ble 13 pc) (cond (Nat.ble 14 pc) ((14, .iconst 1, 1, 0, 0, (1), (0), [], 0)) ((13, .istore_n 2, 1, 2, 0, (0), (0), [], 0))) ((12, .iconst 1, 1, 0, 0, (1), (0), [], 0))) (cond (Nat.ble 8 pc) (cond (Nat.ble 9 pc) ((9, .putfield 283, 3, 12, 46, (0), (0), [], 1310)) ((8, .iconst 0, 1, 0, 0, (0), (0), [], 0))) ((7, .aload_n 0, 1, 0, 0, (0), (0), [], 0)))) (cond (Nat.ble 4 pc) (cond (Nat.ble 5 pc) (cond (Nat.ble 6 pc) ((6, .iastore, 1, 0, 0, (0), (0), [], 0)) ((5, .iconst 0, 1, 0, 0, (0), (0), [], 0))) ((4, .iload_n 1, 1, 1, 0, (0), (0), [], 0))) (cond (Nat.ble 1 pc) ((1, .getfield 216, 3, 12, 35, (0), (0), [], 1299)) ((0, .aload_n 0, 1, 0, 0, (0), (0), [], 0))))))))
def pg_169 (pc : Nat) : RI := cond (Nat.ble 29 pc) (cond (Nat.ble 47 pc) (cond (Nat.ble 53 pc) (cond (Nat.ble 57 pc) (cond (Nat.ble 60 pc) (cond (Nat.ble 61 pc) ((61, .ireturn, 1, 0, 0, (0), (0), [], 0)) ((60, .iload_n 1, 1, 1, 0, (0), (0), [], 0))) ((57, .goto (-53), 3, 4, 0, (0), (0), [], 0))) (cond (Nat.ble 54 pc) ((54, .iinc 2 1, 3, 2, 0, (1), (0), [], 0)) ((53, .istore_n 1, 1, 1, 0, (0), (0), [], 0)))) (cond (Nat.ble 51 pc) (cond (Nat.ble 52 pc) ((52, .iadd, 1, 0, 0, (0), (0), [], 0)) ((51, .iconst 0, 1, 0, 0, (0), (0), [], 0))) (cond (Nat.ble 48 pc) ((48, .goto 4, 3, 52, 0, (0), (0), [], 0)) ((47, .iconst 1, 1, 0, 0, (1), (0), [], 0))))) (cond (Nat.ble 36 pc) (cond (Nat.ble 40 pc) (cond (Nat.ble 41 pc) (cond (Nat.ble 44 pc) ((44, .if_icmp .ne 7, 3, 51, 0, (0), (0), [], 0)) ((41, .sipush 300, 3, 0, 0, (300), (0), [], 0))) ((40, .iaload, 1, 0, 0, (0), (0), [], 0))) (cond (Nat.ble 39 pc) ((39, .iload_n 2, 1, 2, 0, (0), (0), [], 0)) ((36, .getfield 235, 3, 12, 45, (0), (0), [], 1309)))) (cond (Nat.ble 32 pc) (cond (Nat.ble 35 pc) ((35, .aload_n 0, 1, 0, 0, (0), (0), [], 0)) ((32, .if_icmp .eq 15, 3, 47, 0, (0), (0), [], 0))) (cond (Nat.ble 30 pc) ((30, .bipush 111, 2, 0, 0, (111), (0), [], 0)) ((29, .iaload, 1, 0, 0, (0), (0), [], 0)))))) (cond (Nat.ble 13 pc) (cond (Nat.ble 19 pc) (cond (Nat.ble 24 pc) (cond (Nat.ble 25 pc) (cond (Nat.ble 28 pc) ((28, .iload_n 2, 1, 2, 0, (0), (0), [], 0)) ((25, .getfield 235, 3, 12, 45, (0), (0), [], 1309))) ((24, .aload_n 0, 1, 0, 0, (0), (0), [], 0))) (cond (Nat.ble 21 pc) ((21, .if_icmp .eq 26, 3, 47, 0, (0), (0), [], 0)) ((19, .bipush 40, 2, 0, 0, (40), (0), [], 0)))) (cond (Nat.ble 17 pc) (cond (Nat.ble 18 pc) ((18, .iaload, 1, 0, 0, (0), (0), [], 0)) ((17, .iload_n 2, 1, 2, 0, (0), (0), [], 0))) (cond (Nat.ble 14 pc) ((14, .getfield 235, 3, 12, 45, (0), (0), [], 1309)) ((13, .aload_n 0, 1, 0, 0, (0), (0), [], 0))))) (cond (Nat.ble 4 pc) (cond (Nat.ble 6 pc) (cond (Nat.ble 9 pc) (cond (Nat.ble 12 pc) ((12, .iload_n 1, 1, 1, 0, (0), (0), [], 0)) ((9, .if_icmp .ge 51, 3, 60, 0, (0), (0), [], 0))) ((6, .getfield 283, 3, 12, 46, (0), (0), [], 1310))) (cond (Nat.ble 5 pc) ((5, .aload_n 0, 1, 0, 0, (0), (0), [], 0)) ((4, .iload_n 2, 1, 2, 0, (0), (0), [], 0)))) (cond (Nat.ble 2 pc) (cond (Nat.ble 3 pc) ((3, .istore_n 2, 1, 2, 0, (0), (0), [], 0)) ((2, .iconst 0, 1, 0, 0, (0), (0), [], 0))) (cond (Nat.ble 1 pc) ((1, .istore_n 1, 1, 1, 0, (0), (0), [], 0)) ((0, .iconst 0, 1, 0, 0, (0), (0), [], 0))))))
def pg_170 (pc : Nat) : RI := cond (Nat.ble 27 pc) (cond (Nat.ble 38 pc) (cond (Nat.ble 46 pc) (cond (Nat.ble 50 pc) (cond (Nat.ble 53 pc) ((53, .return_, 1, 0, 0, (0), (0), [], 0)) ((50, .goto (-50), 3, 0, 0, (0), (0), [], 0))) (cond (Nat.ble 47 pc) ((47, .invokevirtual 247, 3, 158, 4, (0), (0), [], 1260)) ((46, .iconst 0, 1, 0, 0, (0), (0), [], 0)))) (cond (Nat.ble 42 pc) (cond (Nat.ble 45 pc) ((45, .iaload, 1, 0, 0, (0), (0), [], 0)) ((42, .getfield 283, 3, 12, 46, (0), (0), [], 1310))) (cond (Nat.ble 41 pc) ((41, .aload_n 0, 1, 0, 0, (0), (0), [], 0)) ((38, .getfield 235, 3, 12, 45, (0), (0), [], 1309))))) (cond (Nat.ble 32 pc) (cond (Nat.ble 36 pc) (cond (Nat.ble 37 pc) ((37, .aload_n 0, 1, 0, 0, (0), (0), [], 0)) ((36, .iload_n 1, 1, 1, 0, (0), (0), [], 0))) (cond (Nat.ble 35 pc) ((35, .aload_n 0, 1, 0, 0, (0), (0), [], 0)) ((32, .putfield 283, 3, 12, 46, (0), (0), [], 1310)))) (cond (Nat.ble 30 pc) (cond (Nat.ble 31 pc) ((31, .isub, 1, 0, 0, (0), (0), [], 0)) ((30, .iconst 1, 1, 0, 0, (1), (0), [], 0))) ((27, .getfield 283, 3, 12, 46, (0), (0), [], 1310))))) (cond (Nat.ble 15 pc) (cond (Nat.ble 21 pc) (cond (Nat.ble 25 pc) (cond (Nat.ble 26 pc) ((26, .dup, 1, 0, 0, (0), (0), [], 0)) ((25, .aload_n 0, 1, 0, 0, (0), (0), [], 0))) (cond (Nat.ble 22 pc) ((22, .if_icmp .lt 31, 3, 53, 0, (0), (0), [], 0)) ((21, .iload_n 2, 1, 2, 0, (0), (0), [], 0)))) (cond (Nat.ble 17 pc) (cond (Nat.ble 18 pc) ((18, .invokestatic 286, 3, 171, 1, (0), (0), [], 1491)) ((17, .iaload, 1, 0, 0, (0), (0), [], 0))) (cond (Nat.ble 16 pc) ((16, .isub, 1, 0, 0, (0), (0), [], 0)) ((15, .iconst 1, 1, 0, 0, (1), (0), [], 0))))) (cond (Nat.ble 7 pc) (cond (Nat.ble 11 pc) (cond (Nat.ble 12 pc) ((12, .getfield 283, 3, 12, 46, (0), (0), [], 1310)) ((11, .aload_n 0, 1, 0, 0, (0), (0), [], 0))) (cond (Nat.ble 8 pc) ((8, .getfield 235, 3, 12, 45, (0), (0), [], 1309)) ((7, .aload_n 0, 1, 0, 0, (0), (0), [], 0)))) (cond (Nat.ble 1 pc) (cond (Nat.ble 4 pc) ((4, .ifCond .le 49, 3, 53, 0, (0), (0), [], 0)) ((1, .getfield 283, 3, 12, 46, (0), (0), [], 1310))) ((0, .aload_n 0, 1, 0, 0, (0), (0), [], 0)))))
def pg_171 (pc : Nat) : RI := cond (Nat.ble 91 pc) (cond (Nat.ble 96 pc) (cond (Nat.ble 99 pc) (cond (Nat.ble 100 pc) (cond (Nat.ble 101 pc) ((101, .ireturn, 1, 0, 0, (0), (0), [], 0)) ((100, .iconst 0, 1, 0, 0, (0), (0), [], 0))) ((99, .ireturn, 1, 0, 0, (0), (0), [], 0))) (cond (Nat.ble 97 pc) ((97, .bipush 7, 2, 0, 0, (7), (0), [], 0)) ((96, .ireturn, 1, 0, 0, (0), (0), [], 0)))) (cond (Nat.ble 93 pc) (cond (Nat.ble 94 pc) ((94, .bipush 6, 2, 0, 0, (6), (0), [], 0)) ((93, .ireturn, 1, 0, 0, (0), (0), [], 0))) (cond (Nat.ble 92 pc) ((92, .iconst 5, 1, 0, 0, (5), (0), [], 0)) ((91, .ireturn, 1, 0, 0, (0), (0), [], 0))))) (cond (Nat.ble 86 pc) (cond (Nat.ble 88 pc) (cond (Nat.ble 89 pc) (cond (Nat.ble 90 pc) ((90, .iconst 4, 1, 0, 0, (4), (0), [], 0)) ((89, .ireturn, 1, 0, 0, (0), (0), [], 0))) ((88, .iconst 3, 1, 0, 0, (3), (0), [], 0))) (cond (Nat.ble 87 pc) ((87, .ireturn, 1, 0, 0, (0), (0), [], 0)) ((86, .iconst 2, 1, 0, 0, (2), (0), [], 0)))) (cond (Nat.ble 84 pc) (cond (Nat.ble 85 pc) ((85, .ireturn, 1, 0, 0, (0), (0), [], 0)) ((84, .iconst 1, 1, 0, 0, (1), (0), [], 0))) (cond (Nat.ble 1 pc) ((1, .lookupswitch 99 #[(42, 93), (43, 91), (45, 91), (60, 89), (61, 89), (109, 83), (110, 85), (111, 87), (300, 96)], 83, 100, 0, (0), (0), [((42), 94), ((43), 92), ((45), 92), ((60), 90), ((61), 90), ((109), 84), ((110), 86), ((111), 88), ((300), 97)], 0)) ((0, .iload_n 0, 1, 0, 0, (0), (0), [], 0)))))
def pg_172 (pc : Nat) : RI := cond (Nat.ble 20 pc) (cond (Nat.ble 30 pc) (cond (Nat.ble 35 pc) (cond (Nat.ble 38 pc) (cond (Nat.ble 39 pc) ((39, .ireturn, 1, 1, 0, (0), (0), [], 0)) ((38, .iload_n 2, 1, 2, 0, (0), (0), [], 0))) ((35, .goto (-31), 3, 4, 0, (0), (0), [], 0))) (cond (Nat.ble 31 pc) (cond (Nat.ble 32 pc) ((32, .iinc 3 1, 3, 3, 0, (1), (0), [], 0)) ((31, .istore_n 2, 1, 2, 0, (0), (0), [], 0))) ((30, .iconst 0, 1, 0, 0, (0), (0), [], 0)))) (cond (Nat.ble 23 pc) (cond (Nat.ble 26 pc) (cond (Nat.ble 27 pc) ((27, .goto 4, 3, 31, 0, (0), (0), [], 0)) ((26, .iconst 1, 1, 0, 0, (1), (0), [], 0))) ((23, .if_icmp .ne 7, 3, 30, 0, (0), (0), [], 0))) (cond (Nat.ble 21 pc) (cond (Nat.ble 22 pc) ((22, .iload_n 1, 1, 1, 0, (0), (0), [], 0)) ((21, .iaload, 1, 0, 0, (0), (0), [], 0))) ((20, .iload_n 3, 1, 3, 0, (0), (0), [], 0))))) (cond (Nat.ble 6 pc) (cond (Nat.ble 13 pc) (cond (Nat.ble 16 pc) (cond (Nat.ble 17 pc) ((17, .getfield 235, 3, 12, 45, (0), (0), [], 1309)) ((16, .aload_n 0, 1, 0, 0, (0), (0), [], 0))) ((13, .ifCond .ne 13, 3, 26, 0, (0), (0), [], 0))) (cond (Nat.ble 9 pc) (cond (Nat.ble 12 pc) ((12, .iload_n 2, 1, 2, 0, (0), (0), [], 0)) ((9, .if_icmp .ge 29, 3, 38, 0, (0), (0), [], 0))) ((6, .getfield 283, 3, 12, 46, (0), (0), [], 1310)))) (cond (Nat.ble 3 pc) (cond (Nat.ble 4 pc) (cond (Nat.ble 5 pc) ((5, .aload_n 0, 1, 0, 0, (0), (0), [], 0)) ((4, .iload_n 3, 1, 3, 0, (0), (0), [], 0))) ((3, .istore_n 3, 1, 3, 0, (0), (0), [], 0))) (cond (Nat.ble 1 pc) (cond (Nat.ble 2 pc) ((2, .iconst 0, 1, 0, 0, (0), (0), [], 0)) ((1, .istore_n 2, 1, 2, 0, (0), (0), [], 0))) ((0, .iconst 0, 1, 0, 0, (0), (0), [], 0)))))
def pg_173 (pc : Nat) : RI := cond (Nat.ble 24 pc) (cond (Nat.ble 39 pc) (cond (Nat.ble 47 pc) (cond (Nat.ble 51 pc) (cond (Nat.ble 52 pc) ((52, .ireturn, 1, 1, 0, (0), (0), [], 0)) ((51, .iconst 0, 1, 0, 0, (0), (0), [], 0))) (cond (Nat.ble 48 pc) ((48, .goto 4, 3, 52, 0, (0), (0), [], 0)) ((47, .iconst 1, 1, 0, 0, (1), (0), [], 0)))) (cond (Nat.ble 43 pc) (cond (Nat.ble 44 pc) ((44, .if_icmp .ne 7, 3, 51, 0, (0), (0), [], 0)) ((43, .iconst 4, 1, 0, 0, (4), (0), [], 0))) (cond (Nat.ble 40 pc) ((40, .invokestatic 286, 3, 171, 1, (0), (0), [], 1491)) ((39, .iaload, 1, 0, 0, (0), (0), [], 0))))) (cond (Nat.ble 31 pc) (cond (Nat.ble 35 pc) (cond (Nat.ble 38 pc) ((38, .iload_n 1, 1, 1, 0, (0), (0), [], 0)) ((35, .getfield 235, 3, 12, 45, (0), (0), [], 1309))) (cond (Nat.ble 34 pc) ((34, .aload_n 0, 1, 0, 0, (0), (0), [], 0)) ((31, .ifCond .lt 20, 3, 51, 0, (0), (0), [], 0)))) (cond (Nat.ble 27 pc) (cond (Nat.ble 30 pc) ((30, .iload_n 1, 1, 1, 0, (0), (0), [], 0)) ((27, .goto (-20), 3, 7, 0, (0), (0), [], 0))) ((24, .iinc 1 (-1), 3, 1, 0, (-1), (0), [], 0))))) (cond (Nat.ble 11 pc) (cond (Nat.ble 16 pc) (cond (Nat.ble 20 pc) (cond (Nat.ble 21 pc) ((21, .if_icmp .le 9, 3, 30, 0, (0), (0), [], 0)) ((20, .iconst 4, 1, 0, 0, (4), (0), [], 0))) (cond (Nat.ble 17 pc) ((17, .invokestatic 286, 3, 171, 1, (0), (0), [], 1491)) ((16, .iaload, 1, 0, 0, (0), (0), [], 0)))) (cond (Nat.ble 12 pc) (cond (Nat.ble 15 pc) ((15, .iload_n 1, 1, 1, 0, (0), (0), [], 0)) ((12, .getfield 235, 3, 12, 45, (0), (0), [], 1309))) ((11, .aload_n 0, 1, 0, 0, (0), (0), [], 0)))) (cond (Nat.ble 5 pc) (cond (Nat.ble 7 pc) (cond (Nat.ble 8 pc) ((8, .ifCond .lt 22, 3, 30, 0, (0), (0), [], 0)) ((7, .iload_n 1, 1, 1, 0, (0), (0), [], 0))) (cond (Nat.ble 6 pc) ((6, .istore_n 1, 1, 1, 0, (0), (0), [], 0)) ((5, .isub, 1, 0, 0, (0), (0), [], 0)))) (cond (Nat.ble 1 pc) (cond (Nat.ble 4 pc) ((4, .iconst 1, 1, 0, 0, (1), (0), [], 0)) ((1, .getfield 283, 3, 12, 46, (0), (0), [], 1310))) ((0, .aload_n 0, 1, 0, 0, (0), (0), [], 0)))))
def pg_174 (pc : Nat) : RI := cond (Nat.ble 15 pc) (cond (Nat.ble 21 pc) (cond (Nat.ble 25 pc) (cond (Nat.ble 26 pc) ((26, .ireturn, 1, 0, 0, (0), (0), [], 0)) ((25, .iload_n 2, 1, 2, 0, (0), (0), [], 0))) (cond (Nat.ble 22 pc) ((22, .putfield 175, 3, 12, 34, (0), (0), [], 1298)) ((21, .iload_n 1, 1, 1, 0, (0), (0), [], 0)))) (cond (Nat.ble 19 pc) (cond (Nat.ble 20 pc) ((20, .aload_n 0, 1, 0, 0, (0), (0), [], 0)) ((19, .istore_n 2, 1, 2, 0, (0), (0), [], 0))) (cond (Nat.ble 16 pc) ((16, .getfield 175, 3, 12, 34, (0), (0), [], 1298)) ((15, .aload_n 0, 1, 0, 0, (0), (0), [], 0))))) (cond (Nat.ble 6 pc) (cond (Nat.ble 12 pc) (cond (Nat.ble 14 pc) ((14, .ireturn, 1, 0, 0, (0), (0), [], 0)) ((12, .bipush (-2), 2, 0, 0, (-2), (0), [], 0))) (cond (Nat.ble 9 pc) ((9, .if_icmp .lt 6, 3, 15, 0, (0), (0), [], 0)) ((6, .getfield 250, 3, 12, 33, (0), (0), [], 1297)))) (cond (Nat.ble 4 pc) (cond (Nat.ble 5 pc) ((5, .aload_n 0, 1, 0, 0, (0), (0), [], 0)) ((4, .iload_n 1, 1, 1, 0, (0), (0), [], 0))) (cond (Nat.ble 1 pc) ((1, .ifCond .lt 11, 3, 12, 0, (0), (0), [], 0)) ((0, .iload_n 1, 1, 1, 0, (0), (0), [], 0)))))
def pg_175 (pc : Nat) : RI := cond (Nat.ble 64 pc) (cond (Nat.ble 95 pc) (cond (Nat.ble 108 pc) (cond (Nat.ble 117 pc) (cond (Nat.ble 121 pc) (cond (Nat.ble 124 pc) ((124, .lreturn, 1, 0, 0, (0), (0), [], 0)) ((121, .ldc2_w 323, 3, 0, 0, (0), (-4611686018427387904), [], 1513))) (cond (Nat.ble 118 pc) ((118, .goto 6, 3, 124, 0, (0), (0), [], 0)) ((117, .i2l, 1, 0, 0, (0), (0), [], 0)))) (cond (Nat.ble 112 pc) (cond (Nat.ble 114 pc) ((114, .invokevirtual 187, 3, 150, 8, (0), (0), [], 1225)) ((112, .iload 7, 2, 7, 0, (0), (0), [], 0))) (cond (Nat.ble 110 pc) ((110, .iload 6, 2, 6, 0, (0), (0), [], 0)) ((108, .iload 5, 2, 5, 0, (0), (0), [], 0))))) (cond (Nat.ble 103 pc) (cond (Nat.ble 105 pc) (cond (Nat.ble 106 pc) ((106, .iload 4, 2, 4, 0, (0), (0), [], 0)) ((105, .iload_n 3, 1, 3, 0, (0), (0), [], 0))) (cond (Nat.ble 104 pc) ((104, .iload_n 2, 1, 2, 0, (0), (0), [], 0)) ((103, .iload_n 1, 1, 1, 0, (0), (0), [], 0)))) (cond (Nat.ble 99 pc) (cond (Nat.ble 102 pc) ((102, .aload_n 0, 1, 0, 0, (0), (0), [], 0)) ((99, .ifCond .eq 22, 3, 121, 0, (0), (0), [], 0))) (cond (Nat.ble 97 pc) ((97, .iload 8, 2, 8, 0, (0), (0), [], 0)) ((95, .istore 8, 2, 8, 0, (0), (0), [], 0)))))) (cond (Nat.ble 79 pc) (cond (Nat.ble 87 pc) (cond (Nat.ble 91 pc) (cond (Nat.ble 94 pc) ((94, .iconst 0, 1, 0, 0, (0), (0), [], 0)) ((91, .goto 4, 3, 95, 0, (0), (0), [], 0))) (cond (Nat.ble 90 pc) ((90, .iconst 1, 1, 0, 0, (1), (0), [], 0)) ((87, .ifCond .eq 7, 3, 94, 0, (0), (0), [], 0)))) (cond (Nat.ble 81 pc) (cond (Nat.ble 84 pc) ((84, .invokestatic 12, 3, 119, 3, (0), (0), [], 1091)) ((81, .ldc2_w 103, 3, 0, 0, (0), (99999), [], 1141))) (cond (Nat.ble 80 pc) ((80, .lconst 0, 1, 0, 0, (0), (0), [], 0)) ((79, .i2l, 1, 0, 0, (0), (0), [], 0))))) (cond (Nat.ble 68 pc) (cond (Nat.ble 74 pc) (cond (Nat.ble 77 pc) ((77, .iload 7, 2, 7, 0, (0), (0), [], 0)) ((74, .ifCond .eq 20, 3, 94, 0, (0), (0), [], 0))) (cond (Nat.ble 71 pc) ((71, .invokestatic 12, 3, 119, 3, (0), (0), [], 1091)) ((68, .ldc2_w 41, 3, 0, 0, (0), (9), [], 1107)))) (cond (Nat.ble 66 pc) (cond (Nat.ble 67 pc) ((67, .lconst 0, 1, 0, 0, (0), (0), [], 0)) ((66, .i2l, 1, 0, 0, (0), (0), [], 0))) ((64, .iload 6, 2, 6, 0, (0), (0), [], 0)))))) (cond (Nat.ble 29 pc) (cond (Nat.ble 45 pc) (cond (Nat.ble 54 pc) (cond (Nat.ble 58 pc) (cond (Nat.ble 61 pc) ((61, .ifCond .eq 33, 3, 94, 0, (0), (0), [], 0)) ((58, .invokestatic 12, 3, 119, 3, (0), (0), [], 1091))) (cond (Nat.ble 55 pc) ((55, .ldc2_w 321, 3, 0, 0, (0), (16), [], 1512)) ((54, .lconst 0, 1, 0, 0, (0), (0), [], 0)))) (cond (Nat.ble 51 pc) (cond (Nat.ble 53 pc) ((53, .i2l, 1, 0, 0, (0), (0), [], 0)) ((51, .iload 5, 2, 5, 0, (0), (0), [], 0))) (cond (Nat.ble 48 pc) ((48, .ifCond .eq 46, 3, 94, 0, (0), (0), [], 0)) ((45, .invokestatic 12, 3, 119, 3, (0), (0), [], 1091))))) (cond (Nat.ble 38 pc) (cond (Nat.ble 41 pc) (cond (Nat.ble 42 pc) ((42, .ldc2_w 67, 3, 0, 0, (0), (9999), [], 1132)) ((41, .lconst 0, 1, 0, 0, (0), (0), [], 0))) (cond (Nat.ble 40 pc) ((40, .i2l, 1, 0, 0, (0), (0), [], 0)) ((38, .iload 4, 2, 4, 0, (0), (0), [], 0)))) (cond (Nat.ble 32 pc) (cond (Nat.ble 35 pc) ((35, .ifCond .eq 59, 3, 94, 0, (0), (0), [], 0)) ((32, .invokestatic 12, 3, 119, 3, (0), (0), [], 1091))) ((29, .ldc2_w 319, 3, 0, 0, (0), (100000), [], 1511))))) (cond (Nat.ble 13 pc) (cond (Nat.ble 21 pc) (cond (Nat.ble 25 pc) (cond (Nat.ble 26 pc) ((26, .ldc2_w 317, 3, 0, 0, (0), (-100000), [], 1510)) ((25, .i2l, 1, 0, 0, (0), (0), [], 0))) (cond (Nat.ble 24 pc) ((24, .iload_n 3, 1, 3, 0, (0), (0), [], 0)) ((21, .ifCond .eq 73, 3, 94, 0, (0), (0), [], 0)))) (cond (Nat.ble 15 pc) (cond (Nat.ble 18 pc) ((18, .invokestatic 12, 3, 119, 3, (0), (0), [], 1091)) ((15, .ldc2_w 51, 3, 0, 0, (0), (2), [], 1122))) (cond (Nat.ble 14 pc) ((14, .lconst 0, 1, 0, 0, (0), (0), [], 0)) ((13, .i2l, 1, 0, 0, (0), (0), [], 0))))) (cond (Nat.ble 5 pc) (cond (Nat.ble 9 pc) (cond (Nat.ble 12 pc) ((12, .iload_n 2, 1, 2, 0, (0), (0), [], 0)) ((9, .if_icmp .ge 85, 3, 94, 0, (0), (0), [], 0))) (cond (Nat.ble 6 pc) ((6, .getfield 250, 3, 12, 33, (0), (0), [], 1297)) ((5, .aload_n 0, 1, 0, 0, (0), (0), [], 0)))) (cond (Nat.ble 1 pc) (cond (Nat.ble 4 pc) ((4, .iload_n 1, 1, 1, 0, (0), (0), [], 0)) ((1, .ifCond .lt 93, 3, 94, 0, (0), (0), [], 0))) ((0, .iload_n 1, 1, 1, 0, (0), (0), [], 0))))))
def pg_176 (pc : Nat) : RI := cond (Nat.ble 33 pc) (cond (Nat.ble 52 pc) (cond (Nat.ble 61 pc) (cond (Nat.ble 65 pc) (cond (Nat.ble 68 pc) (cond (Nat.ble 69 pc) ((69, .lreturn, 1, 0, 0, (0), (0), [], 0)) ((68, .i2l, 1, 0, 0, (0), (0), [], 0))) ((65, .getfield 344, 3, 12, 52, (0), (0), [], 1316))) (cond (Nat.ble 64 pc) ((64, .aload_n 0, 1, 0, 0, (0), (0), [], 0)) ((61, .goto 8, 3, 69, 0, (0), (0), [], 0)))) (cond (Nat.ble 56 pc) (cond (Nat.ble 57 pc) (cond (Nat.ble 60 pc) ((60, .i2l, 1, 0, 0, (0), (0), [], 0)) ((57, .getfield 334, 3, 12, 51, (0), (0), [], 1315))) ((56, .aload_n 0, 1, 0, 0, (0), (0), [], 0))) (cond (Nat.ble 53 pc) ((53, .if_icmp .ne 11, 3, 64, 0, (0), (0), [], 0)) ((52, .iconst 1, 1, 0, 0, (1), (0), [], 0))))) (cond (Nat.ble 42 pc) (cond (Nat.ble 46 pc) (cond (Nat.ble 47 pc) (cond (Nat.ble 50 pc) ((50, .iload 4, 2, 4, 0, (0), (0), [], 0)) ((47, .goto 22, 3, 69, 0, (0), (0), [], 0))) ((46, .i2l, 1, 0, 0, (0), (0), [], 0))) (cond (Nat.ble 43 pc) ((43, .getfield 341, 3, 12, 50, (0), (0), [], 1314)) ((42, .aload_n 0, 1, 0, 0, (0), (0), [], 0)))) (cond (Nat.ble 37 pc) (cond (Nat.ble 39 pc) ((39, .ifCond .ne 11, 3, 50, 0, (0), (0), [], 0)) ((37, .iload 4, 2, 4, 0, (0), (0), [], 0))) (cond (Nat.ble 36 pc) ((36, .lreturn, 1, 0, 0, (0), (0), [], 0)) ((33, .ldc2_w 323, 3, 0, 0, (0), (-4611686018427387904), [], 1513)))))) (cond (Nat.ble 14 pc) (cond (Nat.ble 24 pc) (cond (Nat.ble 26 pc) (cond (Nat.ble 27 pc) (cond (Nat.ble 30 pc) ((30, .ifCond .ne 7, 3, 37, 0, (0), (0), [], 0)) ((27, .invokevirtual 354, 3, 178, 4, (0), (0), [], 1522))) ((26, .iload_n 3, 1, 3, 0, (0), (0), [], 0))) (cond (Nat.ble 25 pc) ((25, .iload_n 2, 1, 2, 0, (0), (0), [], 0)) ((24, .iload_n 1, 1, 1, 0, (0), (0), [], 0)))) (cond (Nat.ble 20 pc) (cond (Nat.ble 23 pc) ((23, .aload_n 0, 1, 0, 0, (0), (0), [], 0)) ((20, .ifCond .eq 13, 3, 33, 0, (0), (0), [], 0))) (cond (Nat.ble 17 pc) ((17, .invokestatic 12, 3, 119, 3, (0), (0), [], 1091)) ((14, .ldc2_w 51, 3, 0, 0, (0), (2), [], 1122))))) (cond (Nat.ble 4 pc) (cond (Nat.ble 10 pc) (cond (Nat.ble 12 pc) (cond (Nat.ble 13 pc) ((13, .lconst 0, 1, 0, 0, (0), (0), [], 0)) ((12, .i2l, 1, 0, 0, (0), (0), [], 0))) ((10, .iload 4, 2, 4, 0, (0), (0), [], 0))) (cond (Nat.ble 7 pc) ((7, .ifCond .eq 26, 3, 33, 0, (0), (0), [], 0)) ((4, .invokevirtual 350, 3, 177, 4, (0), (0), [], 1518)))) (cond (Nat.ble 2 pc) (cond (Nat.ble 3 pc) ((3, .iload_n 3, 1, 3, 0, (0), (0), [], 0)) ((2, .iload_n 2, 1, 2, 0, (0), (0), [], 0))) (cond (Nat.ble 1 pc) ((1, .iload_n 1, 1, 1, 0, (0), (0), [], 0)) ((0, .aload_n 0, 1, 0, 0, (0), (0), [], 0))))))
def pg_177 (pc : Nat) : RI := cond (Nat.ble 20 pc) (cond (Nat.ble 29 pc) (cond (Nat.ble 33 pc) (cond (Nat.ble 36 pc) (cond (Nat.ble 37 pc) ((37, .ireturn, 1, 1, 0, (0), (0), [], 0)) ((36, .iconst 0, 1, 0, 0, (0), (0), [], 0))) ((33, .goto 4, 3, 37, 0, (0), (0), [], 0))) (cond (Nat.ble 32 pc) ((32, .iconst 1, 1, 0, 0, (1), (0), [], 0)) ((29, .ifCond .eq 7, 3, 36, 0, (0), (0), [], 0)))) (cond (Nat.ble 22 pc) (cond (Nat.ble 23 pc) (cond (Nat.ble 26 pc) ((26, .invokestatic 12, 3, 119, 3, (0), (0), [], 1091)) ((23, .ldc2_w 67, 3, 0, 0, (0), (9999), [], 1132))) ((22, .lconst 0, 1, 0, 0, (0), (0), [], 0))) (cond (Nat.ble 21 pc) ((21, .i2l, 1, 0, 0, (0), (0), [], 0)) ((20, .iload_n 3, 1, 3, 0, (0), (0), [], 0))))) (cond (Nat.ble 9 pc) (cond (Nat.ble 11 pc) (cond (Nat.ble 14 pc) (cond (Nat.ble 17 pc) ((17, .ifCond .eq 19, 3, 36, 0, (0), (0), [], 0)) ((14, .invokestatic 12, 3, 119, 3, (0), (0), [], 1091))) ((11, .ldc2_w 10, 3, 0, 0, (0), (3), [], 1106))) (cond (Nat.ble 10 pc) ((10, .lconst 1, 1, 0, 0, (0), (1), [], 0)) ((9, .i2l, 1, 0, 0, (0), (0), [], 0)))) (cond (Nat.ble 2 pc) (cond (Nat.ble 5 pc) (cond (Nat.ble 8 pc) ((8, .iload_n 2, 1, 2, 0, (0), (0), [], 0)) ((5, .ifCond .eq 31, 3, 36, 0, (0), (0), [], 0))) ((2, .invokevirtual 114, 3, 131, 2, (0), (0), [], 1146))) (cond (Nat.ble 1 pc) ((1, .iload_n 1, 1, 1, 0, (0), (0), [], 0)) ((0, .aload_n 0, 1, 0, 0, (0), (0), [], 0)))))
def pg_178 (pc : Nat) : RI := cond (Nat.ble 59 pc) (cond (Nat.ble 95 pc) (cond (Nat.ble 114 pc) (cond (Nat.ble 124 pc) (cond (Nat.ble 128 pc) (cond (Nat.ble 131 pc) (cond (Nat.ble 132 pc) ((132, .ireturn, 1, 1, 0, (0), (0), [], 0)) ((131, .iconst 0, 1, 0, 0, (0), (0), [], 0))) ((128, .goto 4, 3, 132, 0, (0), (0), [], 0))) (cond (Nat.ble 127 pc) ((127, .iconst 1, 1, 0, 0, (1), (0), [], 0)) ((124, .ifCond .le 7, 3, 131, 0, (0), (0), [], 0)))) (cond (Nat.ble 120 pc) (cond (Nat.ble 121 pc) ((121, .getfield 334, 3, 12, 51, (0), (0), [], 1315)) ((120, .aload_n 0, 1, 0, 0, (0), (0), [], 0))) (cond (Nat.ble 117 pc) ((117, .goto (-91), 3, 26, 0, (0), (0), [], 0)) ((114, .iinc 5 1, 3, 5, 0, (1), (0), [], 0))))) (cond (Nat.ble 103 pc) (cond (Nat.ble 108 pc) (cond (Nat.ble 111 pc) ((111, .goto (-69), 3, 42, 0, (0), (0), [], 0)) ((108, .iinc 6 1, 3, 6, 0, (1), (0), [], 0))) (cond (Nat.ble 105 pc) ((105, .putfield 347, 3, 12, 53, (0), (0), [], 1317)) ((103, .iload 6, 2, 6, 0, (0), (0), [], 0)))) (cond (Nat.ble 99 pc) (cond (Nat.ble 102 pc) ((102, .aload_n 0, 1, 0, 0, (0), (0), [], 0)) ((99, .putfield 344, 3, 12, 52, (0), (0), [], 1316))) (cond (Nat.ble 96 pc) ((96, .getfield 328, 3, 12, 55, (0), (0), [], 1319)) ((95, .aload_n 0, 1, 0, 0, (0), (0), [], 0)))))) (cond (Nat.ble 77 pc) (cond (Nat.ble 85 pc) (cond (Nat.ble 89 pc) (cond (Nat.ble 91 pc) (cond (Nat.ble 94 pc) ((94, .aload_n 0, 1, 0, 0, (0), (0), [], 0)) ((91, .putfield 334, 3, 12, 51, (0), (0), [], 1315))) ((89, .iload 5, 2, 5, 0, (0), (0), [], 0))) (cond (Nat.ble 88 pc) ((88, .aload_n 0, 1, 0, 0, (0), (0), [], 0)) ((85, .putfield 341, 3, 12, 50, (0), (0), [], 1314)))) (cond (Nat.ble 81 pc) (cond (Nat.ble 82 pc) ((82, .getfield 325, 3, 12, 54, (0), (0), [], 1318)) ((81, .aload_n 0, 1, 0, 0, (0), (0), [], 0))) (cond (Nat.ble 80 pc) ((80, .aload_n 0, 1, 0, 0, (0), (0), [], 0)) ((77, .if_icmp .le 31, 3, 108, 0, (0), (0), [], 0))))) (cond (Nat.ble 69 pc) (cond (Nat.ble 73 pc) (cond (Nat.ble 74 pc) ((74, .getfield 341, 3, 12, 50, (0), (0), [], 1314)) ((73, .aload_n 0, 1, 0, 0, (0), (0), [], 0))) (cond (Nat.ble 70 pc) ((70, .getfield 325, 3, 12, 54, (0), (0), [], 1318)) ((69, .aload_n 0, 1, 0, 0, (0), (0), [], 0)))) (cond (Nat.ble 63 pc) (cond (Nat.ble 66 pc) ((66, .ifCond .eq 14, 3, 80, 0, (0), (0), [], 0)) ((63, .getfield 334, 3, 12, 51, (0), (0), [], 1315))) (cond (Nat.ble 62 pc) ((62, .aload_n 0, 1, 0, 0, (0), (0), [], 0)) ((59, .ifCond .eq 49, 3, 108, 0, (0), (0), [], 0))))))) (cond (Nat.ble 28 pc) (cond (Nat.ble 42 pc) (cond (Nat.ble 50 pc) (cond (Nat.ble 53 pc) (cond (Nat.ble 55 pc) (cond (Nat.ble 56 pc) ((56, .invokevirtual 337, 3, 180, 5, (0), (0), [], 1530)) ((55, .iload_n 3, 1, 3, 0, (0), (0), [], 0))) ((53, .iload 6, 2, 6, 0, (0), (0), [], 0))) (cond (Nat.ble 51 pc) ((51, .iload 5, 2, 5, 0, (0), (0), [], 0)) ((50, .iload_n 1, 1, 1, 0, (0), (0), [], 0)))) (cond (Nat.ble 46 pc) (cond (Nat.ble 49 pc) ((49, .aload_n 0, 1, 0, 0, (0), (0), [], 0)) ((46, .if_icmp .ge 68, 3, 114, 0, (0), (0), [], 0))) (cond (Nat.ble 44 pc) ((44, .iload 4, 2, 4, 0, (0), (0), [], 0)) ((42, .iload 6, 2, 6, 0, (0), (0), [], 0))))) (cond (Nat.ble 36 pc) (cond (Nat.ble 39 pc) (cond (Nat.ble 40 pc) ((40, .istore 6, 2, 6, 0, (0), (0), [], 0)) ((39, .iconst 0, 1, 0, 0, (0), (0), [], 0))) (cond (Nat.ble 37 pc) ((37, .istore 4, 2, 4, 0, (0), (0), [], 0)) ((36, .imul, 1, 0, 0, (0), (0), [], 0)))) (cond (Nat.ble 32 pc) (cond (Nat.ble 34 pc) ((34, .bipush 30, 2, 0, 0, (30), (0), [], 0)) ((32, .iload 4, 2, 4, 0, (0), (0), [], 0))) (cond (Nat.ble 29 pc) ((29, .if_icmp .gt 91, 3, 120, 0, (0), (0), [], 0)) ((28, .iload_n 2, 1, 2, 0, (0), (0), [], 0)))))) (cond (Nat.ble 12 pc) (cond (Nat.ble 20 pc) (cond (Nat.ble 23 pc) (cond (Nat.ble 24 pc) (cond (Nat.ble 26 pc) ((26, .iload 5, 2, 5, 0, (0), (0), [], 0)) ((24, .istore 5, 2, 5, 0, (0), (0), [], 0))) ((23, .iconst 1, 1, 0, 0, (1), (0), [], 0))) (cond (Nat.ble 21 pc) ((21, .istore 4, 2, 4, 0, (0), (0), [], 0)) ((20, .iconst 1, 1, 0, 0, (1), (0), [], 0)))) (cond (Nat.ble 16 pc) (cond (Nat.ble 17 pc) ((17, .putfield 334, 3, 12, 51, (0), (0), [], 1315)) ((16, .iconst 0, 1, 0, 0, (0), (0), [], 0))) (cond (Nat.ble 15 pc) ((15, .aload_n 0, 1, 0, 0, (0), (0), [], 0)) ((12, .invokevirtual 331, 3, 179, 2, (0), (0), [], 1526))))) (cond (Nat.ble 8 pc) (cond (Nat.ble 10 pc) (cond (Nat.ble 11 pc) ((11, .iload_n 1, 1, 1, 0, (0), (0), [], 0)) ((10, .aload_n 0, 1, 0, 0, (0), (0), [], 0))) (cond (Nat.ble 9 pc) ((9, .ireturn, 1, 1, 0, (0), (0), [], 0)) ((8, .iconst 0, 1, 0, 0, (0), (0), [], 0)))) (cond (Nat.ble 2 pc) (cond (Nat.ble 5 pc) ((5, .ifCond .ne 5, 3, 10, 0, (0), (0), [], 0)) ((2, .invokevirtual 121, 3, 135, 2, (0), (0), [], 1162))) (cond (Nat.ble 1 pc) ((1, .iload_n 1, 1, 1, 0, (0), (0), [], 0)) ((0, .aload_n 0, 1, 0, 0, (0), (0), [], 0)))))))
def pg_179 (pc : Nat) : RI := cond (Nat.ble 64 pc) (cond (Nat.ble 98 pc) (cond (Nat.ble 114 pc) (cond (Nat.ble 120 pc) (cond (Nat.ble 126 pc) (cond (Nat.ble 129 pc) (cond (Nat.ble 132 pc) ((132, .return_, 1, 0, 0, (0), (0), [], 0)) ((129, .goto (-117), 3, 12, 0, (0), (0), [], 0))) ((126, .iinc 2 1, 3, 2, 0, (1), (0), [], 0))) (cond (Nat.ble 123 pc) ((123, .goto (-32), 3, 91, 0, (0), (0), [], 0)) ((120, .iinc 6 1, 3, 6, 0, (1), (0), [], 0)))) (cond (Nat.ble 117 pc) (cond (Nat.ble 118 pc) (cond (Nat.ble 119 pc) ((119, .iastore, 1, 0, 0, (0), (0), [], 0)) ((118, .iaload, 1, 0, 0, (0), (0), [], 0))) ((117, .iadd, 1, 0, 0, (0), (0), [], 0))) (cond (Nat.ble 115 pc) ((115, .iload 6, 2, 6, 0, (0), (0), [], 0)) ((114, .imul, 1, 0, 0, (0), (0), [], 0))))) (cond (Nat.ble 106 pc) (cond (Nat.ble 108 pc) (cond (Nat.ble 111 pc) (cond (Nat.ble 112 pc) ((112, .iload 5, 2, 5, 0, (0), (0), [], 0)) ((111, .iconst 4, 1, 0, 0, (4), (0), [], 0))) ((108, .getfield 79, 3, 12, 18, (0), (0), [], 1282))) (cond (Nat.ble 107 pc) ((107, .aload_n 0, 1, 0, 0, (0), (0), [], 0)) ((106, .iadd, 1, 0, 0, (0), (0), [], 0)))) (cond (Nat.ble 102 pc) (cond (Nat.ble 103 pc) (cond (Nat.ble 104 pc) ((104, .iload 6, 2, 6, 0, (0), (0), [], 0)) ((103, .imul, 1, 0, 0, (0), (0), [], 0))) ((102, .iload_n 2, 1, 2, 0, (0), (0), [], 0))) (cond (Nat.ble 101 pc) ((101, .iconst 4, 1, 0, 0, (4), (0), [], 0)) ((98, .getfield 244, 3, 12, 49, (0), (0), [], 1313)))))) (cond (Nat.ble 82 pc) (cond (Nat.ble 89 pc) (cond (Nat.ble 93 pc) (cond (Nat.ble 94 pc) (cond (Nat.ble 97 pc) ((97, .aload_n 0, 1, 0, 0, (0), (0), [], 0)) ((94, .if_icmp .ge 32, 3, 126, 0, (0), (0), [], 0))) ((93, .iconst 4, 1, 0, 0, (4), (0), [], 0))) (cond (Nat.ble 91 pc) ((91, .iload 6, 2, 6, 0, (0), (0), [], 0)) ((89, .istore 6, 2, 6, 0, (0), (0), [], 0)))) (cond (Nat.ble 86 pc) (cond (Nat.ble 87 pc) (cond (Nat.ble 88 pc) ((88, .iconst 0, 1, 0, 0, (0), (0), [], 0)) ((87, .bastore, 1, 0, 0, (0), (0), [], 0))) ((86, .iconst 0, 1, 0, 0, (0), (0), [], 0))) (cond (Nat.ble 83 pc) ((83, .goto 4, 3, 87, 0, (0), (0), [], 0)) ((82, .iconst 1, 1, 0, 0, (1), (0), [], 0))))) (cond (Nat.ble 72 pc) (cond (Nat.ble 76 pc) (cond (Nat.ble 78 pc) (cond (Nat.ble 79 pc) ((79, .ifCond .lt 7, 3, 86, 0, (0), (0), [], 0)) ((78, .iaload, 1, 0, 0, (0), (0), [], 0))) ((76, .iload 5, 2, 5, 0, (0), (0), [], 0))) (cond (Nat.ble 73 pc) ((73, .getfield 73, 3, 12, 17, (0), (0), [], 1281)) ((72, .aload_n 0, 1, 0, 0, (0), (0), [], 0)))) (cond (Nat.ble 67 pc) (cond (Nat.ble 68 pc) (cond (Nat.ble 71 pc) ((71, .iload_n 2, 1, 2, 0, (0), (0), [], 0)) ((68, .getfield 241, 3, 12, 48, (0), (0), [], 1312))) ((67, .aload_n 0, 1, 0, 0, (0), (0), [], 0))) (cond (Nat.ble 65 pc) ((65, .istore 5, 2, 5, 0, (0), (0), [], 0)) ((64, .iload_n 3, 1, 3, 0, (0), (0), [], 0))))))) (cond (Nat.ble 30 pc) (cond (Nat.ble 44 pc) (cond (Nat.ble 54 pc) (cond (Nat.ble 56 pc) (cond (Nat.ble 59 pc) (cond (Nat.ble 61 pc) ((61, .goto 4, 3, 65, 0, (0), (0), [], 0)) ((59, .iload 4, 2, 4, 0, (0), (0), [], 0))) ((56, .if_icmp .le 8, 3, 64, 0, (0), (0), [], 0))) (cond (Nat.ble 55 pc) ((55, .iaload, 1, 0, 0, (0), (0), [], 0)) ((54, .iload_n 3, 1, 3, 0, (0), (0), [], 0)))) (cond (Nat.ble 49 pc) (cond (Nat.ble 50 pc) (cond (Nat.ble 51 pc) ((51, .getfield 73, 3, 12, 17, (0), (0), [], 1281)) ((50, .aload_n 0, 1, 0, 0, (0), (0), [], 0))) ((49, .iaload, 1, 0, 0, (0), (0), [], 0))) (cond (Nat.ble 47 pc) ((47, .iload 4, 2, 4, 0, (0), (0), [], 0)) ((44, .getfield 73, 3, 12, 17, (0), (0), [], 1281))))) (cond (Nat.ble 38 pc) (cond (Nat.ble 40 pc) (cond (Nat.ble 41 pc) (cond (Nat.ble 43 pc) ((43, .aload_n 0, 1, 0, 0, (0), (0), [], 0)) ((41, .istore 4, 2, 4, 0, (0), (0), [], 0))) ((40, .iadd, 1, 0, 0, (0), (0), [], 0))) (cond (Nat.ble 39 pc) ((39, .iload_n 2, 1, 2, 0, (0), (0), [], 0)) ((38, .imul, 1, 0, 0, (0), (0), [], 0)))) (cond (Nat.ble 33 pc) (cond (Nat.ble 36 pc) (cond (Nat.ble 37 pc) ((37, .iaload, 1, 0, 0, (0), (0), [], 0)) ((36, .iload_n 1, 1, 1, 0, (0), (0), [], 0))) ((33, .getfield 82, 3, 12, 9, (0), (0), [], 1273))) (cond (Nat.ble 32 pc) ((32, .aload_n 0, 1, 0, 0, (0), (0), [], 0)) ((30, .bipush 6, 2, 0, 0, (6), (0), [], 0)))))) (cond (Nat.ble 14 pc) (cond (Nat.ble 25 pc) (cond (Nat.ble 27 pc) (cond (Nat.ble 28 pc) (cond (Nat.ble 29 pc) ((29, .istore_n 3, 1, 3, 0, (0), (0), [], 0)) ((28, .iadd, 1, 0, 0, (0), (0), [], 0))) ((27, .iload_n 2, 1, 2, 0, (0), (0), [], 0))) (cond (Nat.ble 26 pc) ((26, .iadd, 1, 0, 0, (0), (0), [], 0)) ((25, .imul, 1, 0, 0, (0), (0), [], 0)))) (cond (Nat.ble 20 pc) (cond (Nat.ble 22 pc) (cond (Nat.ble 24 pc) ((24, .iload_n 1, 1, 1, 0, (0), (0), [], 0)) ((22, .bipush 6, 2, 0, 0, (6), (0), [], 0))) ((20, .bipush 36, 2, 0, 0, (36), (0), [], 0))) (cond (Nat.ble 17 pc) ((17, .if_icmp .ge 115, 3, 132, 0, (0), (0), [], 0)) ((14, .getfield 1, 3, 12, 1, (0), (0), [], 1265))))) (cond (Nat.ble 7 pc) (cond (Nat.ble 11 pc) (cond (Nat.ble 12 pc) (cond (Nat.ble 13 pc) ((13, .aload_n 0, 1, 0, 0, (0), (0), [], 0)) ((12, .iload_n 2, 1, 2, 0, (0), (0), [], 0))) ((11, .istore_n 2, 1, 2, 0, (0), (0), [], 0))) (cond (Nat.ble 10 pc) ((10, .iconst 0, 1, 0, 0, (0), (0), [], 0)) ((7, .invokevirtual 85, 3, 139, 2, (0), (0), [], 1178)))) (cond (Nat.ble 2 pc) (cond (Nat.ble 5 pc) (cond (Nat.ble 6 pc) ((6, .iaload, 1, 0, 0, (0), (0), [], 0)) ((5, .iload_n 1, 1, 1, 0, (0), (0), [], 0))) ((2, .getfield 82, 3, 12, 9, (0), (0), [], 1273))) (cond (Nat.ble 1 pc) ((1, .aload_n 0, 1, 0, 0, (0), (0), [], 0)) ((0, .aload_n 0, 1, 0, 0, (0), (0), [], 0)))))))
def pg_180 (pc : Nat) : RI := cond (Nat.ble 158 pc) (cond (Nat.ble 235 pc) (cond (Nat.ble 269 pc) (cond (Nat.ble 290 pc) (cond (Nat.ble 303 pc) (cond (Nat.ble 309 pc) (cond (Nat.ble 312 pc) (cond (Nat.ble 313 pc) ((313, .ireturn, 1, 1, 0, (0), (0), [], 0)) ((312, .iconst 0, 1, 0, 0, (0), (0), [], 0))) ((309, .goto 4, 3, 313, 0, (0), (0), [], 0))) (cond (Nat.ble 305 pc) (cond (Nat.ble 308 pc) ((308, .iconst 1, 1, 0, 0, (1), (0), [], 0)) ((305, .if_icmp .gt 7, 3, 312, 0, (0), (0), [], 0))) ((303, .iload 4, 2, 4, 0, (0), (0), [], 0)))) (cond (Nat.ble 296 pc) (cond (Nat.ble 298 pc) (cond (Nat.ble 301 pc) ((301, .iload 6, 2, 6, 0, (0), (0), [], 0)) ((298, .putfield 328, 3, 12, 55, (0), (0), [], 1319))) ((296, .iload 6, 2, 6, 0, (0), (0), [], 0))) (cond (Nat.ble 292 pc) (cond (Nat.ble 295 pc) ((295, .aload_n 0, 1, 0, 0, (0), (0), [], 0)) ((292, .putfield 325, 3, 12, 54, (0), (0), [], 1318))) ((290, .iload 7, 2, 7, 0, (0), (0), [], 0))))) (cond (Nat.ble 278 pc) (cond (Nat.ble 283 pc) (cond (Nat.ble 286 pc) (cond (Nat.ble 289 pc) ((289, .aload_n 0, 1, 0, 0, (0), (0), [], 0)) ((286, .goto (-192), 3, 94, 0, (0), (0), [], 0))) ((283, .iinc 9 1, 3, 9, 0, (1), (0), [], 0))) (cond (Nat.ble 280 pc) (cond (Nat.ble 281 pc) ((281, .istore 6, 2, 6, 0, (0), (0), [], 0)) ((280, .iadd, 1, 0, 0, (0), (0), [], 0))) ((278, .iload 12, 2, 12, 0, (0), (0), [], 0)))) (cond (Nat.ble 272 pc) (cond (Nat.ble 274 pc) (cond (Nat.ble 276 pc) ((276, .iload 6, 2, 6, 0, (0), (0), [], 0)) ((274, .istore 5, 2, 5, 0, (0), (0), [], 0))) ((272, .iload 11, 2, 11, 0, (0), (0), [], 0))) (cond (Nat.ble 270 pc) ((270, .istore 7, 2, 7, 0, (0), (0), [], 0)) ((269, .iadd, 1, 0, 0, (0), (0), [], 0)))))) (cond (Nat.ble 250 pc) (cond (Nat.ble 261 pc) (cond (Nat.ble 266 pc) (cond (Nat.ble 267 pc) (cond (Nat.ble 268 pc) ((268, .imul, 1, 0, 0, (0), (0), [], 0)) ((267, .iaload, 1, 0, 0, (0), (0), [], 0))) ((266, .iadd, 1, 0, 0, (0), (0), [], 0))) (cond (Nat.ble 263 pc) (cond (Nat.ble 264 pc) ((264, .iload 10, 2, 10, 0, (0), (0), [], 0)) ((263, .imul, 1, 0, 0, (0), (0), [], 0))) ((261, .iload 11, 2, 11, 0, (0), (0), [], 0)))) (cond (Nat.ble 256 pc) (cond (Nat.ble 257 pc) (cond (Nat.ble 260 pc) ((260, .iconst 4, 1, 0, 0, (4), (0), [], 0)) ((257, .getfield 244, 3, 12, 49, (0), (0), [], 1313))) ((256, .aload_n 0, 1, 0, 0, (0), (0), [], 0))) (cond (Nat.ble 252 pc) (cond (Nat.ble 254 pc) ((254, .iload 13, 2, 13, 0, (0), (0), [], 0)) ((252, .iload 7, 2, 7, 0, (0), (0), [], 0))) ((250, .istore 7, 2, 7, 0, (0), (0), [], 0))))) (cond (Nat.ble 244 pc) (cond (Nat.ble 247 pc) (cond (Nat.ble 248 pc) (cond (Nat.ble 249 pc) ((249, .isub, 1, 0, 0, (0), (0), [], 0)) ((248, .imul, 1, 0, 0, (0), (0), [], 0))) ((247, .iadd, 1, 0, 0, (0), (0), [], 0))) (cond (Nat.ble 245 pc) (cond (Nat.ble 246 pc) ((246, .iconst 1, 1, 0, 0, (1), (0), [], 0)) ((245, .iaload, 1, 0, 0, (0), (0), [], 0))) ((244, .iadd, 1, 0, 0, (0), (0), [], 0)))) (cond (Nat.ble 239 pc) (cond (Nat.ble 241 pc) (cond (Nat.ble 242 pc) ((242, .iload 10, 2, 10, 0, (0), (0), [], 0)) ((241, .imul, 1, 0, 0, (0), (0), [], 0))) ((239, .iload 5, 2, 5, 0, (0), (0), [], 0))) (cond (Nat.ble 238 pc) ((238, .iconst 4, 1, 0, 0, (4), (0), [], 0)) ((235, .getfield 244, 3, 12, 49, (0), (0), [], 1313))))))) (cond (Nat.ble 197 pc) (cond (Nat.ble 213 pc) (cond (Nat.ble 226 pc) (cond (Nat.ble 230 pc) (cond (Nat.ble 232 pc) (cond (Nat.ble 234 pc) ((234, .aload_n 0, 1, 0, 0, (0), (0), [], 0)) ((232, .iload 13, 2, 13, 0, (0), (0), [], 0))) ((230, .iload 7, 2, 7, 0, (0), (0), [], 0))) (cond (Nat.ble 227 pc) (cond (Nat.ble 228 pc) ((228, .istore 13, 2, 13, 0, (0), (0), [], 0)) ((227, .iaload, 1, 0, 0, (0), (0), [], 0))) ((226, .iload_n 1, 1, 1, 0, (0), (0), [], 0)))) (cond (Nat.ble 219 pc) (cond (Nat.ble 222 pc) (cond (Nat.ble 223 pc) ((223, .getfield 105, 3, 12, 11, (0), (0), [], 1275)) ((222, .aload_n 0, 1, 0, 0, (0), (0), [], 0))) ((219, .goto 9, 3, 228, 0, (0), (0), [], 0))) (cond (Nat.ble 214 pc) (cond (Nat.ble 217 pc) ((217, .iload 14, 2, 14, 0, (0), (0), [], 0)) ((214, .if_icmp .ge 8, 3, 222, 0, (0), (0), [], 0))) ((213, .iaload, 1, 0, 0, (0), (0), [], 0))))) (cond (Nat.ble 203 pc) (cond (Nat.ble 208 pc) (cond (Nat.ble 209 pc) (cond (Nat.ble 212 pc) ((212, .iload_n 1, 1, 1, 0, (0), (0), [], 0)) ((209, .getfield 105, 3, 12, 11, (0), (0), [], 1275))) ((208, .aload_n 0, 1, 0, 0, (0), (0), [], 0))) (cond (Nat.ble 204 pc) (cond (Nat.ble 206 pc) ((206, .iload 14, 2, 14, 0, (0), (0), [], 0)) ((204, .istore 14, 2, 14, 0, (0), (0), [], 0))) ((203, .idiv, 1, 0, 0, (0), (0), [], 0)))) (cond (Nat.ble 200 pc) (cond (Nat.ble 201 pc) (cond (Nat.ble 202 pc) ((202, .iadd, 1, 0, 0, (0), (0), [], 0)) ((201, .iconst 1, 1, 0, 0, (1), (0), [], 0))) ((200, .iaload, 1, 0, 0, (0), (0), [], 0))) (cond (Nat.ble 199 pc) ((199, .iadd, 1, 0, 0, (0), (0), [], 0)) ((197, .iload 10, 2, 10, 0, (0), (0), [], 0)))))) (cond (Nat.ble 178 pc) (cond (Nat.ble 187 pc) (cond (Nat.ble 193 pc) (cond (Nat.ble 194 pc) (cond (Nat.ble 196 pc) ((196, .imul, 1, 0, 0, (0), (0), [], 0)) ((194, .iload 5, 2, 5, 0, (0), (0), [], 0))) ((193, .iconst 4, 1, 0, 0, (4), (0), [], 0))) (cond (Nat.ble 189 pc) (cond (Nat.ble 190 pc) ((190, .getfield 244, 3, 12, 49, (0), (0), [], 1313)) ((189, .aload_n 0, 1, 0, 0, (0), (0), [], 0))) ((187, .iload 7, 2, 7, 0, (0), (0), [], 0)))) (cond (Nat.ble 181 pc) (cond (Nat.ble 183 pc) (cond (Nat.ble 184 pc) ((184, .if_icmp .ge 88, 3, 272, 0, (0), (0), [], 0)) ((183, .iconst 4, 1, 0, 0, (4), (0), [], 0))) ((181, .iload 10, 2, 10, 0, (0), (0), [], 0))) (cond (Nat.ble 179 pc) ((179, .istore 13, 2, 13, 0, (0), (0), [], 0)) ((178, .iconst 0, 1, 0, 0, (0), (0), [], 0))))) (cond (Nat.ble 168 pc) (cond (Nat.ble 173 pc) (cond (Nat.ble 176 pc) (cond (Nat.ble 177 pc) ((177, .ireturn, 1, 1, 0, (0), (0), [], 0)) ((176, .iconst 0, 1, 0, 0, (0), (0), [], 0))) ((173, .if_icmp .ne 5, 3, 178, 0, (0), (0), [], 0))) (cond (Nat.ble 170 pc) (cond (Nat.ble 172 pc) ((172, .iconst (-1), 1, 0, 0, (-1), (0), [], 0)) ((170, .iload 12, 2, 12, 0, (0), (0), [], 0))) ((168, .istore 12, 2, 12, 0, (0), (0), [], 0)))) (cond (Nat.ble 161 pc) (cond (Nat.ble 163 pc) (cond (Nat.ble 165 pc) ((165, .invokevirtual 69, 3, 128, 4, (0), (0), [], 1133)) ((163, .iload 6, 2, 6, 0, (0), (0), [], 0))) ((161, .iload 11, 2, 11, 0, (0), (0), [], 0))) (cond (Nat.ble 159 pc) ((159, .iload 5, 2, 5, 0, (0), (0), [], 0)) ((158, .aload_n 0, 1, 0, 0, (0), (0), [], 0)))))))) (cond (Nat.ble 74 pc) (cond (Nat.ble 113 pc) (cond (Nat.ble 132 pc) (cond (Nat.ble 145 pc) (cond (Nat.ble 151 pc) (cond (Nat.ble 154 pc) (cond (Nat.ble 155 pc) ((155, .goto 13, 3, 168, 0, (0), (0), [], 0)) ((154, .iconst (-1), 1, 0, 0, (-1), (0), [], 0))) ((151, .ifCond .ne 7, 3, 158, 0, (0), (0), [], 0))) (cond (Nat.ble 148 pc) (cond (Nat.ble 150 pc) ((150, .baload, 1, 0, 0, (0), (0), [], 0)) ((148, .iload 11, 2, 11, 0, (0), (0), [], 0))) ((145, .getfield 241, 3, 12, 48, (0), (0), [], 1312)))) (cond (Nat.ble 138 pc) (cond (Nat.ble 141 pc) (cond (Nat.ble 144 pc) ((144, .aload_n 0, 1, 0, 0, (0), (0), [], 0)) ((141, .if_icmp .ge 13, 3, 154, 0, (0), (0), [], 0))) ((138, .getfield 1, 3, 12, 1, (0), (0), [], 1265))) (cond (Nat.ble 135 pc) (cond (Nat.ble 137 pc) ((137, .aload_n 0, 1, 0, 0, (0), (0), [], 0)) ((135, .iload 11, 2, 11, 0, (0), (0), [], 0))) ((132, .if_icmp .eq 22, 3, 154, 0, (0), (0), [], 0))))) (cond (Nat.ble 121 pc) (cond (Nat.ble 126 pc) (cond (Nat.ble 128 pc) (cond (Nat.ble 130 pc) ((130, .iload 5, 2, 5, 0, (0), (0), [], 0)) ((128, .iload 11, 2, 11, 0, (0), (0), [], 0))) ((126, .istore 8, 2, 8, 0, (0), (0), [], 0))) (cond (Nat.ble 123 pc) (cond (Nat.ble 125 pc) ((125, .idiv, 1, 0, 0, (0), (0), [], 0)) ((123, .bipush 30, 2, 0, 0, (30), (0), [], 0))) ((121, .iload 8, 2, 8, 0, (0), (0), [], 0)))) (cond (Nat.ble 116 pc) (cond (Nat.ble 118 pc) (cond (Nat.ble 119 pc) ((119, .istore 11, 2, 11, 0, (0), (0), [], 0)) ((118, .irem, 1, 0, 0, (0), (0), [], 0))) ((116, .bipush 6, 2, 0, 0, (6), (0), [], 0))) (cond (Nat.ble 115 pc) ((115, .idiv, 1, 0, 0, (0), (0), [], 0)) ((113, .iload 8, 2, 8, 0, (0), (0), [], 0)))))) (cond (Nat.ble 96 pc) (cond (Nat.ble 104 pc) (cond (Nat.ble 109 pc) (cond (Nat.ble 110 pc) (cond (Nat.ble 112 pc) ((112, .iload_n 3, 1, 3, 0, (0), (0), [], 0)) ((110, .istore 10, 2, 10, 0, (0), (0), [], 0))) ((109, .idiv, 1, 0, 0, (0), (0), [], 0))) (cond (Nat.ble 106 pc) (cond (Nat.ble 107 pc) ((107, .bipush 6, 2, 0, 0, (6), (0), [], 0)) ((106, .irem, 1, 0, 0, (0), (0), [], 0))) ((104, .bipush 30, 2, 0, 0, (30), (0), [], 0)))) (cond (Nat.ble 100 pc) (cond (Nat.ble 101 pc) (cond (Nat.ble 103 pc) ((103, .idiv, 1, 0, 0, (0), (0), [], 0)) ((101, .iload 8, 2, 8, 0, (0), (0), [], 0))) ((100, .iload_n 3, 1, 3, 0, (0), (0), [], 0))) (cond (Nat.ble 97 pc) ((97, .if_icmp .ge 192, 3, 289, 0, (0), (0), [], 0)) ((96, .iload_n 2, 1, 2, 0, (0), (0), [], 0))))) (cond (Nat.ble 83 pc) (cond (Nat.ble 91 pc) (cond (Nat.ble 92 pc) (cond (Nat.ble 94 pc) ((94, .iload 9, 2, 9, 0, (0), (0), [], 0)) ((92, .istore 9, 2, 9, 0, (0), (0), [], 0))) ((91, .iconst 0, 1, 0, 0, (0), (0), [], 0))) (cond (Nat.ble 85 pc) (cond (Nat.ble 88 pc) ((88, .goto (-16), 3, 72, 0, (0), (0), [], 0)) ((85, .iinc 9 1, 3, 9, 0, (1), (0), [], 0))) ((83, .istore 8, 2, 8, 0, (0), (0), [], 0)))) (cond (Nat.ble 78 pc) (cond (Nat.ble 80 pc) (cond (Nat.ble 82 pc) ((82, .imul, 1, 0, 0, (0), (0), [], 0)) ((80, .bipush 30, 2, 0, 0, (30), (0), [], 0))) ((78, .iload 8, 2, 8, 0, (0), (0), [], 0))) (cond (Nat.ble 75 pc) ((75, .if_icmp .ge 16, 3, 91, 0, (0), (0), [], 0)) ((74, .iload_n 2, 1, 2, 0, (0), (0), [], 0))))))) (cond (Nat.ble 38 pc) (cond (Nat.ble 54 pc) (cond (Nat.ble 63 pc) (cond (Nat.ble 69 pc) (cond (Nat.ble 70 pc) (cond (Nat.ble 72 pc) ((72, .iload 9, 2, 9, 0, (0), (0), [], 0)) ((70, .istore 9, 2, 9, 0, (0), (0), [], 0))) ((69, .iconst 1, 1, 0, 0, (1), (0), [], 0))) (cond (Nat.ble 66 pc) (cond (Nat.ble 67 pc) ((67, .istore 8, 2, 8, 0, (0), (0), [], 0)) ((66, .iconst 1, 1, 0, 0, (1), (0), [], 0))) ((63, .goto (-38), 3, 25, 0, (0), (0), [], 0)))) (cond (Nat.ble 57 pc) (cond (Nat.ble 58 pc) (cond (Nat.ble 60 pc) ((60, .iinc 8 1, 3, 8, 0, (1), (0), [], 0)) ((58, .istore 7, 2, 7, 0, (0), (0), [], 0))) ((57, .iadd, 1, 0, 0, (0), (0), [], 0))) (cond (Nat.ble 55 pc) (cond (Nat.ble 56 pc) ((56, .imul, 1, 0, 0, (0), (0), [], 0)) ((55, .iaload, 1, 0, 0, (0), (0), [], 0))) ((54, .iadd, 1, 0, 0, (0), (0), [], 0))))) (cond (Nat.ble 44 pc) (cond (Nat.ble 49 pc) (cond (Nat.ble 51 pc) (cond (Nat.ble 52 pc) ((52, .iload 8, 2, 8, 0, (0), (0), [], 0)) ((51, .imul, 1, 0, 0, (0), (0), [], 0))) ((49, .iload 5, 2, 5, 0, (0), (0), [], 0))) (cond (Nat.ble 45 pc) (cond (Nat.ble 48 pc) ((48, .iconst 4, 1, 0, 0, (4), (0), [], 0)) ((45, .getfield 244, 3, 12, 49, (0), (0), [], 1313))) ((44, .aload_n 0, 1, 0, 0, (0), (0), [], 0)))) (cond (Nat.ble 40 pc) (cond (Nat.ble 42 pc) (cond (Nat.ble 43 pc) ((43, .iaload, 1, 0, 0, (0), (0), [], 0)) ((42, .iadd, 1, 0, 0, (0), (0), [], 0))) ((40, .iload 8, 2, 8, 0, (0), (0), [], 0))) (cond (Nat.ble 39 pc) ((39, .imul, 1, 0, 0, (0), (0), [], 0)) ((38, .iload_n 1, 1, 1, 0, (0), (0), [], 0)))))) (cond (Nat.ble 19 pc) (cond (Nat.ble 27 pc) (cond (Nat.ble 33 pc) (cond (Nat.ble 34 pc) (cond (Nat.ble 37 pc) ((37, .iconst 4, 1, 0, 0, (4), (0), [], 0)) ((34, .getfield 93, 3, 12, 16, (0), (0), [], 1280))) ((33, .aload_n 0, 1, 0, 0, (0), (0), [], 0))) (cond (Nat.ble 28 pc) (cond (Nat.ble 31 pc) ((31, .iload 7, 2, 7, 0, (0), (0), [], 0)) ((28, .if_icmp .ge 38, 3, 66, 0, (0), (0), [], 0))) ((27, .iconst 4, 1, 0, 0, (4), (0), [], 0)))) (cond (Nat.ble 22 pc) (cond (Nat.ble 23 pc) (cond (Nat.ble 25 pc) ((25, .iload 8, 2, 8, 0, (0), (0), [], 0)) ((23, .istore 8, 2, 8, 0, (0), (0), [], 0))) ((22, .iconst 0, 1, 0, 0, (0), (0), [], 0))) (cond (Nat.ble 20 pc) ((20, .istore 7, 2, 7, 0, (0), (0), [], 0)) ((19, .iaload, 1, 0, 0, (0), (0), [], 0))))) (cond (Nat.ble 8 pc) (cond (Nat.ble 14 pc) (cond (Nat.ble 15 pc) (cond (Nat.ble 18 pc) ((18, .iload_n 1, 1, 1, 0, (0), (0), [], 0)) ((15, .getfield 108, 3, 12, 12, (0), (0), [], 1276))) ((14, .aload_n 0, 1, 0, 0, (0), (0), [], 0))) (cond (Nat.ble 9 pc) (cond (Nat.ble 12 pc) ((12, .istore 6, 2, 6, 0, (0), (0), [], 0)) ((9, .getfield 76, 3, 12, 0, (0), (0), [], 1264))) ((8, .aload_n 0, 1, 0, 0, (0), (0), [], 0)))) (cond (Nat.ble 4 pc) (cond (Nat.ble 5 pc) (cond (Nat.ble 6 pc) ((6, .istore 5, 2, 5, 0, (0), (0), [], 0)) ((5, .iaload, 1, 0, 0, (0), (0), [], 0))) ((4, .iload_n 1, 1, 1, 0, (0), (0), [], 0))) (cond (Nat.ble 1 pc) ((1, .getfield 82, 3, 12, 9, (0), (0), [], 1273)) ((0, .aload_n 0, 1, 0, 0, (0), (0), [], 0))))))))
def pg_181 (pc : Nat) : RI := cond (Nat.ble 45 pc) (cond (Nat.ble 70 pc) (cond (Nat.ble 82 pc) (cond (Nat.ble 86 pc) (cond (Nat.ble 89 pc) (cond (Nat.ble 90 pc) ((90, .ireturn, 1, 0, 0, (0), (0), [], 0)) ((89, .iadd, 1, 0, 0, (0), (0), [], 0))) (cond (Nat.ble 88 pc) ((88, .irem, 1, 0, 0, (0), (0), [], 0)) ((86, .bipush 6, 2, 0, 0, (6), (0), [], 0)))) (cond (Nat.ble 83 pc) (cond (Nat.ble 84 pc) ((84, .iload 5, 2, 5, 0, (0), (0), [], 0)) ((83, .imul, 1, 0, 0, (0), (0), [], 0))) ((82, .idiv, 1, 0, 0, (0), (0), [], 0)))) (cond (Nat.ble 77 pc) (cond (Nat.ble 79 pc) (cond (Nat.ble 80 pc) ((80, .bipush 6, 2, 0, 0, (6), (0), [], 0)) ((79, .irem, 1, 0, 0, (0), (0), [], 0))) ((77, .bipush 30, 2, 0, 0, (30), (0), [], 0))) (cond (Nat.ble 73 pc) (cond (Nat.ble 75 pc) ((75, .iload 5, 2, 5, 0, (0), (0), [], 0)) ((73, .bipush 10, 2, 0, 0, (10), (0), [], 0))) ((70, .goto (-19), 3, 51, 0, (0), (0), [], 0))))) (cond (Nat.ble 54 pc) (cond (Nat.ble 62 pc) (cond (Nat.ble 65 pc) (cond (Nat.ble 67 pc) ((67, .iinc 6 1, 3, 6, 0, (1), (0), [], 0)) ((65, .istore 5, 2, 5, 0, (0), (0), [], 0))) (cond (Nat.ble 64 pc) ((64, .idiv, 1, 0, 0, (0), (0), [], 0)) ((62, .bipush 30, 2, 0, 0, (30), (0), [], 0)))) (cond (Nat.ble 57 pc) (cond (Nat.ble 60 pc) ((60, .iload 5, 2, 5, 0, (0), (0), [], 0)) ((57, .if_icmp .ge 16, 3, 73, 0, (0), (0), [], 0))) ((54, .getfield 334, 3, 12, 51, (0), (0), [], 1315)))) (cond (Nat.ble 49 pc) (cond (Nat.ble 51 pc) (cond (Nat.ble 53 pc) ((53, .aload_n 0, 1, 0, 0, (0), (0), [], 0)) ((51, .iload 6, 2, 6, 0, (0), (0), [], 0))) ((49, .istore 6, 2, 6, 0, (0), (0), [], 0))) (cond (Nat.ble 47 pc) (cond (Nat.ble 48 pc) ((48, .iadd, 1, 0, 0, (0), (0), [], 0)) ((47, .iconst 1, 1, 0, 0, (1), (0), [], 0))) ((45, .iload 4, 2, 4, 0, (0), (0), [], 0)))))) (cond (Nat.ble 20 pc) (cond (Nat.ble 31 pc) (cond (Nat.ble 38 pc) (cond (Nat.ble 40 pc) (cond (Nat.ble 43 pc) ((43, .istore 5, 2, 5, 0, (0), (0), [], 0)) ((40, .getfield 347, 3, 12, 53, (0), (0), [], 1317))) (cond (Nat.ble 39 pc) ((39, .aload_n 0, 1, 0, 0, (0), (0), [], 0)) ((38, .ireturn, 1, 0, 0, (0), (0), [], 0)))) (cond (Nat.ble 34 pc) (cond (Nat.ble 37 pc) ((37, .iconst (-1), 1, 0, 0, (-1), (0), [], 0)) ((34, .if_icmp .lt 5, 3, 39, 0, (0), (0), [], 0))) ((31, .getfield 334, 3, 12, 51, (0), (0), [], 1315)))) (cond (Nat.ble 25 pc) (cond (Nat.ble 28 pc) (cond (Nat.ble 30 pc) ((30, .aload_n 0, 1, 0, 0, (0), (0), [], 0)) ((28, .iload 4, 2, 4, 0, (0), (0), [], 0))) ((25, .ifCond .eq 12, 3, 37, 0, (0), (0), [], 0))) (cond (Nat.ble 21 pc) (cond (Nat.ble 22 pc) ((22, .invokevirtual 354, 3, 178, 4, (0), (0), [], 1522)) ((21, .iload_n 3, 1, 3, 0, (0), (0), [], 0))) ((20, .iload_n 2, 1, 2, 0, (0), (0), [], 0))))) (cond (Nat.ble 10 pc) (cond (Nat.ble 15 pc) (cond (Nat.ble 18 pc) (cond (Nat.ble 19 pc) ((19, .iload_n 1, 1, 1, 0, (0), (0), [], 0)) ((18, .aload_n 0, 1, 0, 0, (0), (0), [], 0))) ((15, .ifCond .lt 22, 3, 37, 0, (0), (0), [], 0))) (cond (Nat.ble 12 pc) (cond (Nat.ble 13 pc) ((13, .iload 4, 2, 4, 0, (0), (0), [], 0)) ((12, .ireturn, 1, 0, 0, (0), (0), [], 0))) ((10, .bipush (-2), 2, 0, 0, (-2), (0), [], 0)))) (cond (Nat.ble 3 pc) (cond (Nat.ble 4 pc) (cond (Nat.ble 7 pc) ((7, .ifCond .ne 6, 3, 13, 0, (0), (0), [], 0)) ((4, .invokevirtual 350, 3, 177, 4, (0), (0), [], 1518))) ((3, .iload_n 3, 1, 3, 0, (0), (0), [], 0))) (cond (Nat.ble 1 pc) (cond (Nat.ble 2 pc) ((2, .iload_n 2, 1, 2, 0, (0), (0), [], 0)) ((1, .iload_n 1, 1, 1, 0, (0), (0), [], 0))) ((0, .aload_n 0, 1, 0, 0, (0), (0), [], 0))))))
def pg_182 (pc : Nat) : RI := cond (Nat.ble 102 pc) (cond (Nat.ble 129 pc) (cond (Nat.ble 146 pc) (cond (Nat.ble 152 pc) (cond (Nat.ble 156 pc) (cond (Nat.ble 157 pc) (cond (Nat.ble 159 pc) ((159, .ireturn, 1, 0, 0, (0), (0), [], 0)) ((157, .bipush (-2), 2, 0, 0, (-2), (0), [], 0))) ((156, .ireturn, 1, 0, 0, (0), (0), [], 0))) (cond (Nat.ble 155 pc) ((155, .iload_n 2, 1, 2, 0, (0), (0), [], 0)) ((152, .goto (-28), 3, 124, 0, (0), (0), [], 0)))) (cond (Nat.ble 148 pc) (cond (Nat.ble 149 pc) ((149, .iinc 3 1, 3, 3, 0, (1), (0), [], 0)) ((148, .istore_n 2, 1, 2, 0, (0), (0), [], 0))) (cond (Nat.ble 147 pc) ((147, .iadd, 1, 0, 0, (0), (0), [], 0)) ((146, .iconst 1, 1, 0, 0, (1), (0), [], 0))))) (cond (Nat.ble 137 pc) (cond (Nat.ble 139 pc) (cond (Nat.ble 142 pc) (cond (Nat.ble 143 pc) ((143, .goto 4, 3, 147, 0, (0), (0), [], 0)) ((142, .iconst 0, 1, 0, 0, (0), (0), [], 0))) ((139, .ifCond .eq 7, 3, 146, 0, (0), (0), [], 0))) (cond (Nat.ble 138 pc) ((138, .baload, 1, 0, 0, (0), (0), [], 0)) ((137, .iload_n 3, 1, 3, 0, (0), (0), [], 0)))) (cond (Nat.ble 133 pc) (cond (Nat.ble 134 pc) ((134, .getfield 135, 3, 12, 25, (0), (0), [], 1289)) ((133, .aload_n 0, 1, 0, 0, (0), (0), [], 0))) (cond (Nat.ble 132 pc) ((132, .iload_n 2, 1, 2, 0, (0), (0), [], 0)) ((129, .if_icmp .ge 26, 3, 155, 0, (0), (0), [], 0)))))) (cond (Nat.ble 114 pc) (cond (Nat.ble 122 pc) (cond (Nat.ble 124 pc) (cond (Nat.ble 125 pc) (cond (Nat.ble 126 pc) ((126, .getfield 129, 3, 12, 19, (0), (0), [], 1283)) ((125, .aload_n 0, 1, 0, 0, (0), (0), [], 0))) ((124, .iload_n 3, 1, 3, 0, (0), (0), [], 0))) (cond (Nat.ble 123 pc) ((123, .istore_n 3, 1, 3, 0, (0), (0), [], 0)) ((122, .iconst 0, 1, 0, 0, (0), (0), [], 0)))) (cond (Nat.ble 120 pc) (cond (Nat.ble 121 pc) ((121, .ireturn, 1, 0, 0, (0), (0), [], 0)) ((120, .iload_n 2, 1, 2, 0, (0), (0), [], 0))) (cond (Nat.ble 117 pc) ((117, .goto (-28), 3, 89, 0, (0), (0), [], 0)) ((114, .iinc 3 1, 3, 3, 0, (1), (0), [], 0))))) (cond (Nat.ble 108 pc) (cond (Nat.ble 112 pc) (cond (Nat.ble 113 pc) ((113, .istore_n 2, 1, 2, 0, (0), (0), [], 0)) ((112, .iadd, 1, 0, 0, (0), (0), [], 0))) (cond (Nat.ble 111 pc) ((111, .iconst 0, 1, 0, 0, (0), (0), [], 0)) ((108, .goto 4, 3, 112, 0, (0), (0), [], 0)))) (cond (Nat.ble 104 pc) (cond (Nat.ble 107 pc) ((107, .iconst 1, 1, 0, 0, (1), (0), [], 0)) ((104, .ifCond .eq 7, 3, 111, 0, (0), (0), [], 0))) (cond (Nat.ble 103 pc) ((103, .baload, 1, 0, 0, (0), (0), [], 0)) ((102, .iload_n 3, 1, 3, 0, (0), (0), [], 0))))))) (cond (Nat.ble 73 pc) (cond (Nat.ble 87 pc) (cond (Nat.ble 91 pc) (cond (Nat.ble 97 pc) (cond (Nat.ble 98 pc) (cond (Nat.ble 99 pc) ((99, .getfield 96, 3, 12, 15, (0), (0), [], 1279)) ((98, .aload_n 0, 1, 0, 0, (0), (0), [], 0))) ((97, .iload_n 2, 1, 2, 0, (0), (0), [], 0))) (cond (Nat.ble 94 pc) ((94, .if_icmp .ge 26, 3, 120, 0, (0), (0), [], 0)) ((91, .getfield 7, 3, 12, 8, (0), (0), [], 1272)))) (cond (Nat.ble 89 pc) (cond (Nat.ble 90 pc) ((90, .aload_n 0, 1, 0, 0, (0), (0), [], 0)) ((89, .iload_n 3, 1, 3, 0, (0), (0), [], 0))) (cond (Nat.ble 88 pc) ((88, .istore_n 3, 1, 3, 0, (0), (0), [], 0)) ((87, .iconst 0, 1, 0, 0, (0), (0), [], 0))))) (cond (Nat.ble 81 pc) (cond (Nat.ble 83 pc) (cond (Nat.ble 86 pc) ((86, .ireturn, 1, 0, 0, (0), (0), [], 0)) ((83, .getfield 175, 3, 12, 34, (0), (0), [], 1298))) (cond (Nat.ble 82 pc) ((82, .aload_n 0, 1, 0, 0, (0), (0), [], 0)) ((81, .ireturn, 1, 0, 0, (0), (0), [], 0)))) (cond (Nat.ble 77 pc) (cond (Nat.ble 78 pc) ((78, .getfield 76, 3, 12, 0, (0), (0), [], 1264)) ((77, .aload_n 0, 1, 0, 0, (0), (0), [], 0))) (cond (Nat.ble 76 pc) ((76, .ireturn, 1, 0, 0, (0), (0), [], 0)) ((73, .getfield 253, 3, 12, 32, (0), (0), [], 1296)))))) (cond (Nat.ble 58 pc) (cond (Nat.ble 66 pc) (cond (Nat.ble 68 pc) (cond (Nat.ble 71 pc) (cond (Nat.ble 72 pc) ((72, .aload_n 0, 1, 0, 0, (0), (0), [], 0)) ((71, .ireturn, 1, 0, 0, (0), (0), [], 0))) ((68, .getfield 250, 3, 12, 33, (0), (0), [], 1297))) (cond (Nat.ble 67 pc) ((67, .aload_n 0, 1, 0, 0, (0), (0), [], 0)) ((66, .ireturn, 1, 0, 0, (0), (0), [], 0)))) (cond (Nat.ble 62 pc) (cond (Nat.ble 63 pc) ((63, .getfield 129, 3, 12, 19, (0), (0), [], 1283)) ((62, .aload_n 0, 1, 0, 0, (0), (0), [], 0))) (cond (Nat.ble 61 pc) ((61, .ireturn, 1, 0, 0, (0), (0), [], 0)) ((58, .getfield 7, 3, 12, 8, (0), (0), [], 1272))))) (cond (Nat.ble 52 pc) (cond (Nat.ble 56 pc) (cond (Nat.ble 57 pc) ((57, .aload_n 0, 1, 0, 0, (0), (0), [], 0)) ((56, .ireturn, 1, 0, 0, (0), (0), [], 0))) (cond (Nat.ble 53 pc) ((53, .getfield 1, 3, 12, 1, (0), (0), [], 1265)) ((52, .aload_n 0, 1, 0, 0, (0), (0), [], 0)))) (cond (Nat.ble 2 pc) (cond (Nat.ble 3 pc) ((3, .tableswitch 154 0 8 #[49, 54, 59, 64, 69, 74, 79, 84, 119], 49, 157, 0, (0), (0), [((0), 52), ((1), 57), ((2), 62), ((3), 67), ((4), 72), ((5), 77), ((6), 82), ((7), 87), ((8), 122)], 0)) ((2, .iload_n 1, 1, 1, 0, (0), (0), [], 0))) (cond (Nat.ble 1 pc) ((1, .istore_n 2, 1, 2, 0, (0), (0), [], 0)) ((0, .iconst 0, 1, 0, 0, (0), (0), [], 0)))))))
def pg_183 (pc : Nat) : RI := cond (Nat.ble 56 pc) (cond (Nat.ble 80 pc) (cond (Nat.ble 91 pc) (cond (Nat.ble 98 pc) (cond (Nat.ble 104 pc) (cond (Nat.ble 105 pc) ((105, .ireturn, 1, 0, 0, (0), (0), [], 0)) ((104, .iconst 1, 1, 0, 0, (1), (0), [], 0))) (cond (Nat.ble 101 pc) ((101, .goto (-23), 3, 78, 0, (0), (0), [], 0)) ((98, .iinc 4 1, 3, 4, 0, (1), (0), [], 0)))) (cond (Nat.ble 96 pc) (cond (Nat.ble 97 pc) ((97, .iastore, 1, 0, 0, (0), (0), [], 0)) ((96, .iconst 0, 1, 0, 0, (0), (0), [], 0))) (cond (Nat.ble 94 pc) ((94, .iload 4, 2, 4, 0, (0), (0), [], 0)) ((91, .getfield 64, 3, 12, 58, (0), (0), [], 1322))))) (cond (Nat.ble 84 pc) (cond (Nat.ble 87 pc) (cond (Nat.ble 90 pc) ((90, .aload_n 0, 1, 0, 0, (0), (0), [], 0)) ((87, .if_icmp .ge 17, 3, 104, 0, (0), (0), [], 0))) (cond (Nat.ble 86 pc) ((86, .iadd, 1, 0, 0, (0), (0), [], 0)) ((84, .bipush 40, 2, 0, 0, (40), (0), [], 0)))) (cond (Nat.ble 82 pc) (cond (Nat.ble 83 pc) ((83, .imul, 1, 0, 0, (0), (0), [], 0)) ((82, .iload_n 1, 1, 1, 0, (0), (0), [], 0))) ((80, .bipush 40, 2, 0, 0, (40), (0), [], 0))))) (cond (Nat.ble 67 pc) (cond (Nat.ble 74 pc) (cond (Nat.ble 76 pc) (cond (Nat.ble 78 pc) ((78, .iload 4, 2, 4, 0, (0), (0), [], 0)) ((76, .istore 4, 2, 4, 0, (0), (0), [], 0))) (cond (Nat.ble 75 pc) ((75, .imul, 1, 0, 0, (0), (0), [], 0)) ((74, .iload_n 1, 1, 1, 0, (0), (0), [], 0)))) (cond (Nat.ble 71 pc) (cond (Nat.ble 72 pc) ((72, .bipush 40, 2, 0, 0, (40), (0), [], 0)) ((71, .iastore, 1, 0, 0, (0), (0), [], 0))) (cond (Nat.ble 70 pc) ((70, .iload_n 3, 1, 3, 0, (0), (0), [], 0)) ((67, .goto 4, 3, 71, 0, (0), (0), [], 0))))) (cond (Nat.ble 61 pc) (cond (Nat.ble 63 pc) (cond (Nat.ble 66 pc) ((66, .iconst 0, 1, 0, 0, (0), (0), [], 0)) ((63, .ifCond .ge 7, 3, 70, 0, (0), (0), [], 0))) (cond (Nat.ble 62 pc) ((62, .iload_n 2, 1, 2, 0, (0), (0), [], 0)) ((61, .iload_n 1, 1, 1, 0, (0), (0), [], 0)))) (cond (Nat.ble 57 pc) (cond (Nat.ble 58 pc) ((58, .getfield 61, 3, 12, 57, (0), (0), [], 1321)) ((57, .aload_n 0, 1, 0, 0, (0), (0), [], 0))) ((56, .iastore, 1, 0, 0, (0), (0), [], 0)))))) (cond (Nat.ble 30 pc) (cond (Nat.ble 43 pc) (cond (Nat.ble 50 pc) (cond (Nat.ble 54 pc) (cond (Nat.ble 55 pc) ((55, .iload_n 2, 1, 2, 0, (0), (0), [], 0)) ((54, .iload_n 1, 1, 1, 0, (0), (0), [], 0))) (cond (Nat.ble 51 pc) ((51, .getfield 58, 3, 12, 56, (0), (0), [], 1320)) ((50, .aload_n 0, 1, 0, 0, (0), (0), [], 0)))) (cond (Nat.ble 47 pc) (cond (Nat.ble 49 pc) ((49, .ireturn, 1, 0, 0, (0), (0), [], 0)) ((47, .bipush (-14), 2, 0, 0, (-14), (0), [], 0))) (cond (Nat.ble 44 pc) ((44, .ifCond .ge 6, 3, 50, 0, (0), (0), [], 0)) ((43, .iload_n 3, 1, 3, 0, (0), (0), [], 0))))) (cond (Nat.ble 36 pc) (cond (Nat.ble 39 pc) (cond (Nat.ble 40 pc) ((40, .ifCond .lt 10, 3, 50, 0, (0), (0), [], 0)) ((39, .iload_n 2, 1, 2, 0, (0), (0), [], 0))) (cond (Nat.ble 38 pc) ((38, .ireturn, 1, 0, 0, (0), (0), [], 0)) ((36, .bipush (-2), 2, 0, 0, (-2), (0), [], 0)))) (cond (Nat.ble 31 pc) (cond (Nat.ble 33 pc) ((33, .if_icmp .le 6, 3, 39, 0, (0), (0), [], 0)) ((31, .bipush 40, 2, 0, 0, (40), (0), [], 0))) ((30, .iload_n 3, 1, 3, 0, (0), (0), [], 0))))) (cond (Nat.ble 13 pc) (cond (Nat.ble 20 pc) (cond (Nat.ble 26 pc) (cond (Nat.ble 27 pc) ((27, .ifCond .lt 12, 3, 39, 0, (0), (0), [], 0)) ((26, .iload_n 2, 1, 2, 0, (0), (0), [], 0))) (cond (Nat.ble 23 pc) ((23, .ifCond .eq 13, 3, 36, 0, (0), (0), [], 0)) ((20, .invokestatic 12, 3, 119, 3, (0), (0), [], 1091)))) (cond (Nat.ble 14 pc) (cond (Nat.ble 17 pc) ((17, .ldc2_w 51, 3, 0, 0, (0), (2), [], 1122)) ((14, .ldc2_w 141, 3, 0, 0, (0), (-1), [], 1199))) ((13, .i2l, 1, 0, 0, (0), (0), [], 0)))) (cond (Nat.ble 3 pc) (cond (Nat.ble 9 pc) (cond (Nat.ble 12 pc) ((12, .iload_n 2, 1, 2, 0, (0), (0), [], 0)) ((9, .ifCond .eq 27, 3, 36, 0, (0), (0), [], 0))) (cond (Nat.ble 6 pc) ((6, .invokestatic 12, 3, 119, 3, (0), (0), [], 1091)) ((3, .ldc2_w 10, 3, 0, 0, (0), (3), [], 1106)))) (cond (Nat.ble 1 pc) (cond (Nat.ble 2 pc) ((2, .lconst 0, 1, 0, 0, (0), (0), [], 0)) ((1, .i2l, 1, 0, 0, (0), (0), [], 0))) ((0, .iload_n 1, 1, 1, 0, (0), (0), [], 0))))))
def pg_184 (pc : Nat) : RI := cond (Nat.ble 45 pc) (cond (Nat.ble 65 pc) (cond (Nat.ble 78 pc) (cond (Nat.ble 83 pc) (cond (Nat.ble 85 pc) (cond (Nat.ble 86 pc) ((86, .ireturn, 1, 0, 0, (0), (0), [], 0)) ((85, .iconst 1, 1, 0, 0, (1), (0), [], 0))) (cond (Nat.ble 84 pc) ((84, .iastore, 1, 0, 0, (0), (0), [], 0)) ((83, .iload_n 3, 1, 3, 0, (0), (0), [], 0)))) (cond (Nat.ble 79 pc) (cond (Nat.ble 80 pc) ((80, .goto 4, 3, 84, 0, (0), (0), [], 0)) ((79, .i2s, 1, 0, 0, (0), (0), [], 0))) ((78, .iload_n 3, 1, 3, 0, (0), (0), [], 0)))) (cond (Nat.ble 72 pc) (cond (Nat.ble 74 pc) (cond (Nat.ble 75 pc) ((75, .if_icmp .ne 8, 3, 83, 0, (0), (0), [], 0)) ((74, .iconst 1, 1, 0, 0, (1), (0), [], 0))) (cond (Nat.ble 73 pc) ((73, .iaload, 1, 0, 0, (0), (0), [], 0)) ((72, .iload_n 1, 1, 1, 0, (0), (0), [], 0)))) (cond (Nat.ble 68 pc) (cond (Nat.ble 69 pc) ((69, .getfield 58, 3, 12, 56, (0), (0), [], 1320)) ((68, .aload_n 0, 1, 0, 0, (0), (0), [], 0))) ((65, .goto 19, 3, 84, 0, (0), (0), [], 0))))) (cond (Nat.ble 54 pc) (cond (Nat.ble 59 pc) (cond (Nat.ble 63 pc) (cond (Nat.ble 64 pc) ((64, .i2b, 1, 0, 0, (0), (0), [], 0)) ((63, .iload_n 3, 1, 3, 0, (0), (0), [], 0))) (cond (Nat.ble 60 pc) ((60, .ifCond .ne 8, 3, 68, 0, (0), (0), [], 0)) ((59, .iaload, 1, 0, 0, (0), (0), [], 0)))) (cond (Nat.ble 55 pc) (cond (Nat.ble 58 pc) ((58, .iload_n 1, 1, 1, 0, (0), (0), [], 0)) ((55, .getfield 58, 3, 12, 56, (0), (0), [], 1320))) ((54, .aload_n 0, 1, 0, 0, (0), (0), [], 0)))) (cond (Nat.ble 51 pc) (cond (Nat.ble 52 pc) (cond (Nat.ble 53 pc) ((53, .iadd, 1, 0, 0, (0), (0), [], 0)) ((52, .iload_n 2, 1, 2, 0, (0), (0), [], 0))) ((51, .imul, 1, 0, 0, (0), (0), [], 0))) (cond (Nat.ble 48 pc) (cond (Nat.ble 50 pc) ((50, .iload_n 1, 1, 1, 0, (0), (0), [], 0)) ((48, .bipush 40, 2, 0, 0, (40), (0), [], 0))) ((45, .getfield 64, 3, 12, 58, (0), (0), [], 1322)))))) (cond (Nat.ble 24 pc) (cond (Nat.ble 33 pc) (cond (Nat.ble 38 pc) (cond (Nat.ble 43 pc) (cond (Nat.ble 44 pc) ((44, .aload_n 0, 1, 0, 0, (0), (0), [], 0)) ((43, .ireturn, 1, 0, 0, (0), (0), [], 0))) (cond (Nat.ble 41 pc) ((41, .bipush (-12), 2, 0, 0, (-12), (0), [], 0)) ((38, .if_icmp .lt 6, 3, 44, 0, (0), (0), [], 0)))) (cond (Nat.ble 36 pc) (cond (Nat.ble 37 pc) ((37, .iaload, 1, 0, 0, (0), (0), [], 0)) ((36, .iload_n 1, 1, 1, 0, (0), (0), [], 0))) ((33, .getfield 61, 3, 12, 57, (0), (0), [], 1321)))) (cond (Nat.ble 28 pc) (cond (Nat.ble 31 pc) (cond (Nat.ble 32 pc) ((32, .aload_n 0, 1, 0, 0, (0), (0), [], 0)) ((31, .iload_n 2, 1, 2, 0, (0), (0), [], 0))) ((28, .ifCond .lt 13, 3, 41, 0, (0), (0), [], 0))) (cond (Nat.ble 26 pc) (cond (Nat.ble 27 pc) ((27, .iload_n 2, 1, 2, 0, (0), (0), [], 0)) ((26, .ireturn, 1, 0, 0, (0), (0), [], 0))) ((24, .bipush (-11), 2, 0, 0, (-11), (0), [], 0))))) (cond (Nat.ble 12 pc) (cond (Nat.ble 16 pc) (cond (Nat.ble 20 pc) (cond (Nat.ble 21 pc) ((21, .ifCond .ge 6, 3, 27, 0, (0), (0), [], 0)) ((20, .iaload, 1, 0, 0, (0), (0), [], 0))) (cond (Nat.ble 19 pc) ((19, .iload_n 1, 1, 1, 0, (0), (0), [], 0)) ((16, .getfield 58, 3, 12, 56, (0), (0), [], 1320)))) (cond (Nat.ble 14 pc) (cond (Nat.ble 15 pc) ((15, .aload_n 0, 1, 0, 0, (0), (0), [], 0)) ((14, .ireturn, 1, 0, 0, (0), (0), [], 0))) ((12, .bipush (-2), 2, 0, 0, (-2), (0), [], 0)))) (cond (Nat.ble 3 pc) (cond (Nat.ble 6 pc) (cond (Nat.ble 9 pc) ((9, .ifCond .ne 6, 3, 15, 0, (0), (0), [], 0)) ((6, .invokestatic 12, 3, 119, 3, (0), (0), [], 1091))) ((3, .ldc2_w 10, 3, 0, 0, (0), (3), [], 1106))) (cond (Nat.ble 1 pc) (cond (Nat.ble 2 pc) ((2, .lconst 0, 1, 0, 0, (0), (0), [], 0)) ((1, .i2l, 1, 0, 0, (0), (0), [], 0))) ((0, .iload_n 1, 1, 1, 0, (0), (0), [], 0))))))
def pg_185 (pc : Nat) : RI := cond (Nat.ble 49 pc) (cond (Nat.ble 73 pc) (cond (Nat.ble 86 pc) (cond (Nat.ble 94 pc) (cond (Nat.ble 98 pc) (cond (Nat.ble 100 pc) ((100, .ireturn, 1, 0, 0, (0), (0), [], 0)) ((98, .bipush (-13), 2, 0, 0, (-13), (0), [], 0))) (cond (Nat.ble 95 pc) ((95, .goto 5, 3, 100, 0, (0), (0), [], 0)) ((94, .iaload, 1, 0, 0, (0), (0), [], 0)))) (cond (Nat.ble 90 pc) (cond (Nat.ble 93 pc) ((93, .iload_n 1, 1, 1, 0, (0), (0), [], 0)) ((90, .getfield 145, 3, 12, 22, (0), (0), [], 1286))) (cond (Nat.ble 89 pc) ((89, .aload_n 0, 1, 0, 0, (0), (0), [], 0)) ((86, .ifCond .eq 12, 3, 98, 0, (0), (0), [], 0))))) (cond (Nat.ble 78 pc) (cond (Nat.ble 82 pc) (cond (Nat.ble 84 pc) ((84, .iload 4, 2, 4, 0, (0), (0), [], 0)) ((82, .istore 4, 2, 4, 0, (0), (0), [], 0))) (cond (Nat.ble 81 pc) ((81, .iconst 0, 1, 0, 0, (0), (0), [], 0)) ((78, .goto 4, 3, 82, 0, (0), (0), [], 0)))) (cond (Nat.ble 74 pc) (cond (Nat.ble 77 pc) ((77, .iconst 1, 1, 0, 0, (1), (0), [], 0)) ((74, .if_icmp .ne 7, 3, 81, 0, (0), (0), [], 0))) ((73, .iconst 4, 1, 0, 0, (4), (0), [], 0))))) (cond (Nat.ble 62 pc) (cond (Nat.ble 67 pc) (cond (Nat.ble 69 pc) (cond (Nat.ble 72 pc) ((72, .iload_n 3, 1, 3, 0, (0), (0), [], 0)) ((69, .if_icmp .ne 12, 3, 81, 0, (0), (0), [], 0))) (cond (Nat.ble 68 pc) ((68, .iconst 3, 1, 0, 0, (3), (0), [], 0)) ((67, .iload_n 2, 1, 2, 0, (0), (0), [], 0)))) (cond (Nat.ble 63 pc) (cond (Nat.ble 64 pc) ((64, .if_icmp .eq 13, 3, 77, 0, (0), (0), [], 0)) ((63, .iconst 5, 1, 0, 0, (5), (0), [], 0))) ((62, .iload_n 3, 1, 3, 0, (0), (0), [], 0)))) (cond (Nat.ble 54 pc) (cond (Nat.ble 58 pc) (cond (Nat.ble 59 pc) ((59, .if_icmp .ne 8, 3, 67, 0, (0), (0), [], 0)) ((58, .iconst 2, 1, 0, 0, (2), (0), [], 0))) (cond (Nat.ble 57 pc) ((57, .iload_n 2, 1, 2, 0, (0), (0), [], 0)) ((54, .if_icmp .eq 23, 3, 77, 0, (0), (0), [], 0)))) (cond (Nat.ble 52 pc) (cond (Nat.ble 53 pc) ((53, .iconst 5, 1, 0, 0, (5), (0), [], 0)) ((52, .iload_n 3, 1, 3, 0, (0), (0), [], 0))) ((49, .if_icmp .eq 28, 3, 77, 0, (0), (0), [], 0)))))) (cond (Nat.ble 26 pc) (cond (Nat.ble 37 pc) (cond (Nat.ble 43 pc) (cond (Nat.ble 47 pc) (cond (Nat.ble 48 pc) ((48, .iconst 2, 1, 0, 0, (2), (0), [], 0)) ((47, .iload_n 3, 1, 3, 0, (0), (0), [], 0))) (cond (Nat.ble 44 pc) ((44, .if_icmp .ne 13, 3, 57, 0, (0), (0), [], 0)) ((43, .iconst 1, 1, 0, 0, (1), (0), [], 0)))) (cond (Nat.ble 39 pc) (cond (Nat.ble 42 pc) ((42, .iload_n 2, 1, 2, 0, (0), (0), [], 0)) ((39, .if_icmp .eq 38, 3, 77, 0, (0), (0), [], 0))) (cond (Nat.ble 38 pc) ((38, .iload_n 3, 1, 3, 0, (0), (0), [], 0)) ((37, .iload_n 2, 1, 2, 0, (0), (0), [], 0))))) (cond (Nat.ble 31 pc) (cond (Nat.ble 33 pc) (cond (Nat.ble 34 pc) ((34, .ifCond .eq 43, 3, 77, 0, (0), (0), [], 0)) ((33, .iload_n 2, 1, 2, 0, (0), (0), [], 0))) (cond (Nat.ble 32 pc) ((32, .istore_n 3, 1, 3, 0, (0), (0), [], 0)) ((31, .iaload, 1, 0, 0, (0), (0), [], 0)))) (cond (Nat.ble 27 pc) (cond (Nat.ble 30 pc) ((30, .iload_n 1, 1, 1, 0, (0), (0), [], 0)) ((27, .getfield 138, 3, 12, 20, (0), (0), [], 1284))) ((26, .aload_n 0, 1, 0, 0, (0), (0), [], 0))))) (cond (Nat.ble 14 pc) (cond (Nat.ble 17 pc) (cond (Nat.ble 23 pc) (cond (Nat.ble 25 pc) ((25, .ireturn, 1, 0, 0, (0), (0), [], 0)) ((23, .bipush (-11), 2, 0, 0, (-11), (0), [], 0))) (cond (Nat.ble 20 pc) ((20, .ifCond .ne 6, 3, 26, 0, (0), (0), [], 0)) ((17, .invokevirtual 154, 3, 146, 2, (0), (0), [], 1209)))) (cond (Nat.ble 15 pc) (cond (Nat.ble 16 pc) ((16, .iload_n 1, 1, 1, 0, (0), (0), [], 0)) ((15, .aload_n 0, 1, 0, 0, (0), (0), [], 0))) ((14, .ireturn, 1, 0, 0, (0), (0), [], 0)))) (cond (Nat.ble 3 pc) (cond (Nat.ble 9 pc) (cond (Nat.ble 12 pc) ((12, .bipush (-2), 2, 0, 0, (-2), (0), [], 0)) ((9, .ifCond .ne 6, 3, 15, 0, (0), (0), [], 0))) (cond (Nat.ble 6 pc) ((6, .invokestatic 12, 3, 119, 3, (0), (0), [], 1091)) ((3, .ldc2_w 143, 3, 0, 0, (0), (5), [], 1204)))) (cond (Nat.ble 1 pc) (cond (Nat.ble 2 pc) ((2, .lconst 0, 1, 0, 0, (0), (0), [], 0)) ((1, .i2l, 1, 0, 0, (0), (0), [], 0))) ((0, .iload_n 2, 1, 2, 0, (0), (0), [], 0))))))
def pg_186 (pc : Nat) : RI := cond (Nat.ble 7 pc) (cond (Nat.ble 13 pc) (cond (Nat.ble 17 pc) (cond (Nat.ble 20 pc) ((20, .return_, 1, 0, 0, (0), (0), [], 0)) ((17, .goto (-12), 3, 5, 0, (0), (0), [], 0))) (cond (Nat.ble 14 pc) ((14, .iinc 2 1, 3, 2, 0, (1), (0), [], 0)) ((13, .iastore, 1, 0, 0, (0), (0), [], 0)))) (cond (Nat.ble 11 pc) (cond (Nat.ble 12 pc) ((12, .iload_n 1, 1, 1, 0, (0), (0), [], 0)) ((11, .iload_n 2, 1, 2, 0, (0), (0), [], 0))) (cond (Nat.ble 10 pc) ((10, .aload_n 0, 1, 0, 0, (0), (0), [], 0)) ((7, .if_icmp .ge 13, 3, 20, 0, (0), (0), [], 0))))) (cond (Nat.ble 3 pc) (cond (Nat.ble 5 pc) (cond (Nat.ble 6 pc) ((6, .iload_n 3, 1, 3, 0, (0), (0), [], 0)) ((5, .iload_n 2, 1, 2, 0, (0), (0), [], 0))) (cond (Nat.ble 4 pc) ((4, .istore_n 3, 1, 3, 0, (0), (0), [], 0)) ((3, .arraylength, 1, 0, 0, (0), (0), [], 0)))) (cond (Nat.ble 1 pc) (cond (Nat.ble 2 pc) ((2, .aload_n 0, 1, 0, 0, (0), (0), [], 0)) ((1, .istore_n 2, 1, 2, 0, (0), (0), [], 0))) ((0, .iconst 0, 1, 0, 0, (0), (0), [], 0))))
def pg_187 (pc : Nat) : RI := cond (Nat.ble 5 pc) (cond (Nat.ble 9 pc) (cond (Nat.ble 10 pc) ((10, .ireturn, 1, 0, 0, (0), (0), [], 0)) ((9, .ishr, 1, 0, 0, (0), (0), [], 0))) (cond (Nat.ble 6 pc) ((6, .invokevirtual 335, 3, 188, 1, (0), (0), [], 431)) ((5, .aload_n 0, 1, 0, 0, (0), (0), [], 0)))) (cond (Nat.ble 1 pc) (cond (Nat.ble 4 pc) ((4, .arraylength, 1, 0, 0, (0), (0), [], 0)) ((1, .getfield 9, 3, 99, 0, (0), (0), [], 1555))) ((0, .aload_n 0, 1, 0, 0, (0), (0), [], 0)))
def pg_188 (pc : Nat) : RI := cond (Nat.ble 7 pc) (cond (Nat.ble 13 pc) (cond (Nat.ble 14 pc) ((14, .ireturn, 1, 4, 0, (0), (0), [], 0)) ((13, .iconst 1, 1, 0, 0, (1), (0), [], 0))) (cond (Nat.ble 10 pc) ((10, .goto 4, 3, 14, 0, (0), (0), [], 0)) ((7, .getfield 15, 3, 99, 1, (0), (0), [], 1556)))) (cond (Nat.ble 3 pc) (cond (Nat.ble 6 pc) ((6, .aload_n 0, 1, 0, 0, (0), (0), [], 0)) ((3, .ifCond .eq 10, 3, 13, 0, (0), (0), [], 0))) ((0, .getstatic 38, 3, 2, 0, (0), (0), [], 435)))
def pg_189 (pc : Nat) : RI := cond (Nat.ble 12 pc) (cond (Nat.ble 17 pc) (cond (Nat.ble 21 pc) (cond (Nat.ble 24 pc) ((24, .ireturn, 1, 3, 0, (0), (0), [], 0)) ((21, .invokestatic 498, 3, 998, 2, (0), (0), [], 456))) (cond (Nat.ble 20 pc) ((20, .iload_n 1, 1, 1, 0, (0), (0), [], 0)) ((17, .getfield 9, 3, 99, 0, (0), (0), [], 1555)))) (cond (Nat.ble 15 pc) (cond (Nat.ble 16 pc) ((16, .aload_n 0, 1, 0, 0, (0), (0), [], 0)) ((15, .ireturn, 1, 3, 0, (0), (0), [], 0))) ((12, .invokestatic 495, 3, 191, 2, (0), (0), [], 445)))) (cond (Nat.ble 7 pc) (cond (Nat.ble 8 pc) (cond (Nat.ble 11 pc) ((11, .iload_n 1, 1, 1, 0, (0), (0), [], 0)) ((8, .getfield 9, 3, 99, 0, (0), (0), [], 1555))) ((7, .aload_n 0, 1, 0, 0, (0), (0), [], 0))) (cond (Nat.ble 1 pc) (cond (Nat.ble 4 pc) ((4, .ifCond .eq 12, 3, 16, 0, (0), (0), [], 0)) ((1, .invokevirtual 492, 3, 190, 1, (0), (0), [], 441))) ((0, .aload_n 0, 1, 0, 0, (0), (0), [], 0))))
def pg_190 (pc : Nat) : RI := cond (Nat.ble 10 pc) (cond (Nat.ble 14 pc) (cond (Nat.ble 17 pc) (cond (Nat.ble 18 pc) ((18, .ireturn, 1, 1, 0, (0), (0), [], 0)) ((17, .iconst 0, 1, 0, 0, (0), (0), [], 0))) ((14, .goto 4, 3, 18, 0, (0), (0), [], 0))) (cond (Nat.ble 13 pc) ((13, .iconst 1, 1, 0, 0, (1), (0), [], 0)) ((10, .ifCond .ne 7, 3, 17, 0, (0), (0), [], 0)))) (cond (Nat.ble 6 pc) (cond (Nat.ble 7 pc) ((7, .getfield 15, 3, 99, 1, (0), (0), [], 1556)) ((6, .aload_n 0, 1, 0, 0, (0), (0), [], 0))) (cond (Nat.ble 3 pc) ((3, .ifCond .eq 14, 3, 17, 0, (0), (0), [], 0)) ((0, .getstatic 38, 3, 2, 0, (0), (0), [], 435))))
def pg_191 (pc : Nat) : RI := cond (Nat.ble 7 pc) (cond (Nat.ble 12 pc) (cond (Nat.ble 13 pc) (cond (Nat.ble 14 pc) ((14, .ireturn, 1, 3, 0, (0), (0), [], 0)) ((13, .i2c, 1, 0, 0, (0), (0), [], 0))) ((12, .iand, 1, 0, 0, (0), (0), [], 0))) (cond (Nat.ble 8 pc) (cond (Nat.ble 9 pc) ((9, .sipush 255, 3, 0, 0, (255), (0), [], 0)) ((8, .baload, 1, 0, 0, (0), (0), [], 0))) ((7, .iload_n 1, 1, 1, 0, (0), (0), [], 0)))) (cond (Nat.ble 2 pc) (cond (Nat.ble 3 pc) (cond (Nat.ble 6 pc) ((6, .aload_n 0, 1, 0, 0, (0), (0), [], 0)) ((3, .invokestatic 9, 3, 192, 2, (0), (0), [], 448))) ((2, .arraylength, 1, 0, 0, (0), (0), [], 0))) (cond (Nat.ble 1 pc) ((1, .aload_n 0, 1, 0, 0, (0), (0), [], 0)) ((0, .iload_n 1, 1, 1, 0, (0), (0), [], 0))))
def pg_192 (pc : Nat) : RI := cond (Nat.ble 5 pc) (cond (Nat.ble 8 pc) (cond (Nat.ble 9 pc) ((9, .return_, 1, 0, 0, (0), (0), [], 0)) ((8, .pop, 1, 0, 0, (0), (0), [], 0))) ((5, .invokestatic 1059, 3, 193, 3, (0), (0), [], 453))) (cond (Nat.ble 1 pc) (cond (Nat.ble 2 pc) ((2, .getstatic 1053, 3, 99, 0, (0), (0), [], 451)) ((1, .iload_n 1, 1, 1, 0, (0), (0), [], 0))) ((0, .iload_n 0, 1, 0, 0, (0), (0), [], 0)))
def pg_193 (pc : Nat) : RI := cond (Nat.ble 10 pc) (cond (Nat.ble 15 pc) (cond (Nat.ble 16 pc) (cond (Nat.ble 17 pc) ((17, .ireturn, 1, 0, 0, (0), (0), [], 0)) ((16, .iload_n 0, 1, 0, 0, (0), (0), [], 0))) ((15, .athrow, 1, 0, 0, (0), (0), [], 0))) (cond (Nat.ble 11 pc) (cond (Nat.ble 12 pc) ((12, .invokestatic 95, 3, 997, 0, (0), (0), [], 0)) ((11, .iload_n 1, 1, 1, 0, (0), (0), [], 0))) ((10, .iload_n 0, 1, 0, 0, (0), (0), [], 0)))) (cond (Nat.ble 5 pc) (cond (Nat.ble 6 pc) (cond (Nat.ble 9 pc) ((9, .aload_n 2, 1, 2, 0, (0), (0), [], 0)) ((6, .if_icmp .lt 10, 3, 16, 0, (0), (0), [], 0))) ((5, .iload_n 1, 1, 1, 0, (0), (0), [], 0))) (cond (Nat.ble 1 pc) (cond (Nat.ble 4 pc) ((4, .iload_n 0, 1, 0, 0, (0), (0), [], 0)) ((1, .ifCond .lt 8, 3, 9, 0, (0), (0), [], 0))) ((0, .iload_n 0, 1, 0, 0, (0), (0), [], 0))))
def pg_194 (pc : Nat) : RI := cond (Nat.ble 2 pc) (cond (Nat.ble 3 pc) (cond (Nat.ble 6 pc) ((6, .ireturn, 1, 0, 0, (0), (0), [], 0)) ((3, .invokevirtual 633, 3, 195, 3, (0), (0), [], 522))) ((2, .iconst 0, 1, 0, 0, (0), (0), [], 0))) (cond (Nat.ble 1 pc) ((1, .iload_n 1, 1, 1, 0, (0), (0), [], 0)) ((0, .aload_n 0, 1, 0, 0, (0), (0), [], 0)))
def pg_195 (pc : Nat) : RI := cond (Nat.ble 17 pc) (cond (Nat.ble 28 pc) (cond (Nat.ble 30 pc) (cond (Nat.ble 33 pc) (cond (Nat.ble 36 pc) ((36, .ireturn, 1, 0, 0, (0), (0), [], 0)) ((33, .invokestatic 640, 3, 998, 4, (0), (0), [], 542))) ((30, .invokevirtual 505, 3, 187, 1, (0), (0), [], 526))) (cond (Nat.ble 29 pc) ((29, .aload_n 0, 1, 0, 0, (0), (0), [], 0)) ((28, .iload_n 2, 1, 2, 0, (0), (0), [], 0)))) (cond (Nat.ble 23 pc) (cond (Nat.ble 24 pc) (cond (Nat.ble 27 pc) ((27, .iload_n 1, 1, 1, 0, (0), (0), [], 0)) ((24, .getfield 9, 3, 99, 0, (0), (0), [], 1555))) ((23, .aload_n 0, 1, 0, 0, (0), (0), [], 0))) (cond (Nat.ble 20 pc) ((20, .goto 16, 3, 36, 0, (0), (0), [], 0)) ((17, .invokestatic 637, 3, 196, 4, (0), (0), [], 527))))) (cond (Nat.ble 8 pc) (cond (Nat.ble 12 pc) (cond (Nat.ble 13 pc) (cond (Nat.ble 14 pc) ((14, .invokevirtual 505, 3, 187, 1, (0), (0), [], 526)) ((13, .aload_n 0, 1, 0, 0, (0), (0), [], 0))) ((12, .iload_n 2, 1, 2, 0, (0), (0), [], 0))) (cond (Nat.ble 11 pc) ((11, .iload_n 1, 1, 1, 0, (0), (0), [], 0)) ((8, .getfield 9, 3, 99, 0, (0), (0), [], 1555)))) (cond (Nat.ble 4 pc) (cond (Nat.ble 7 pc) ((7, .aload_n 0, 1, 0, 0, (0), (0), [], 0)) ((4, .ifCond .eq 19, 3, 23, 0, (0), (0), [], 0))) (cond (Nat.ble 1 pc) ((1, .invokevirtual 492, 3, 190, 1, (0), (0), [], 441)) ((0, .aload_n 0, 1, 0, 0, (0), (0), [], 0)))))
def pg_196 (pc : Nat) : RI := cond (Nat.ble 18 pc) (cond (Nat.ble 28 pc) (cond (Nat.ble 31 pc) (cond (Nat.ble 33 pc) (cond (Nat.ble 36 pc) ((36, .ireturn, 1, 0, 0, (0), (0), [], 0)) ((33, .invokestatic 95, 3, 198, 4, (0), (0), [], 539))) (cond (Nat.ble 32 pc) ((32, .iload_n 3, 1, 3, 0, (0), (0), [], 0)) ((31, .iload_n 2, 1, 2, 0, (0), (0), [], 0)))) (cond (Nat.ble 29 pc) (cond (Nat.ble 30 pc) ((30, .iload_n 1, 1, 1, 0, (0), (0), [], 0)) ((29, .aload_n 0, 1, 0, 0, (0), (0), [], 0))) ((28, .ireturn, 1, 0, 0, (0), (0), [], 0)))) (cond (Nat.ble 23 pc) (cond (Nat.ble 24 pc) (cond (Nat.ble 27 pc) ((27, .iconst (-1), 1, 0, 0, (-1), (0), [], 0)) ((24, .if_icmp .lt 5, 3, 29, 0, (0), (0), [], 0))) ((23, .iload_n 3, 1, 3, 0, (0), (0), [], 0))) (cond (Nat.ble 21 pc) (cond (Nat.ble 22 pc) ((22, .iload_n 2, 1, 2, 0, (0), (0), [], 0)) ((21, .istore_n 3, 1, 3, 0, (0), (0), [], 0))) ((18, .invokestatic 38, 3, 1002, 2, (0), (0), [], 536))))) (cond (Nat.ble 10 pc) (cond (Nat.ble 15 pc) (cond (Nat.ble 16 pc) (cond (Nat.ble 17 pc) ((17, .arraylength, 1, 0, 0, (0), (0), [], 0)) ((16, .aload_n 0, 1, 0, 0, (0), (0), [], 0))) ((15, .iload_n 3, 1, 3, 0, (0), (0), [], 0))) (cond (Nat.ble 11 pc) (cond (Nat.ble 14 pc) ((14, .istore_n 2, 1, 2, 0, (0), (0), [], 0)) ((11, .invokestatic 92, 3, 1001, 2, (0), (0), [], 533))) ((10, .iconst 0, 1, 0, 0, (0), (0), [], 0)))) (cond (Nat.ble 7 pc) (cond (Nat.ble 8 pc) (cond (Nat.ble 9 pc) ((9, .iload_n 2, 1, 2, 0, (0), (0), [], 0)) ((8, .ireturn, 1, 0, 0, (0), (0), [], 0))) ((7, .iconst (-1), 1, 0, 0, (-1), (0), [], 0))) (cond (Nat.ble 1 pc) (cond (Nat.ble 4 pc) ((4, .ifCond .ne 5, 3, 9, 0, (0), (0), [], 0)) ((1, .invokestatic 88, 3, 197, 1, (0), (0), [], 530))) ((0, .iload_n 1, 1, 1, 0, (0), (0), [], 0)))))
def pg_197 (pc : Nat) : RI := cond (Nat.ble 8 pc) (cond (Nat.ble 12 pc) (cond (Nat.ble 15 pc) (cond (Nat.ble 16 pc) ((16, .ireturn, 1, 1, 0, (0), (0), [], 0)) ((15, .iconst 0, 1, 0, 0, (0), (0), [], 0))) ((12, .goto 4, 3, 16, 0, (0), (0), [], 0))) (cond (Nat.ble 11 pc) ((11, .iconst 1, 1, 0, 0, (1), (0), [], 0)) ((8, .if_icmp .gt 7, 3, 15, 0, (0), (0), [], 0)))) (cond (Nat.ble 4 pc) (cond (Nat.ble 5 pc) ((5, .sipush 255, 3, 0, 0, (255), (0), [], 0)) ((4, .iload_n 0, 1, 0, 0, (0), (0), [], 0))) (cond (Nat.ble 1 pc) ((1, .ifCond .lt 14, 3, 15, 0, (0), (0), [], 0)) ((0, .iload_n 0, 1, 0, 0, (0), (0), [], 0))))
def pg_198 (pc : Nat) : RI := cond (Nat.ble 14 pc) (cond (Nat.ble 24 pc) (cond (Nat.ble 28 pc) (cond (Nat.ble 31 pc) (cond (Nat.ble 32 pc) ((32, .ireturn, 1, 0, 0, (0), (0), [], 0)) ((31, .iconst (-1), 1, 0, 0, (-1), (0), [], 0))) ((28, .goto (-21), 3, 7, 0, (0), (0), [], 0))) (cond (Nat.ble 25 pc) ((25, .iinc 5 1, 3, 5, 0, (1), (0), [], 0)) ((24, .ireturn, 1, 0, 0, (0), (0), [], 0)))) (cond (Nat.ble 17 pc) (cond (Nat.ble 19 pc) (cond (Nat.ble 22 pc) ((22, .iload 5, 2, 5, 0, (0), (0), [], 0)) ((19, .if_icmp .ne 6, 3, 25, 0, (0), (0), [], 0))) ((17, .iload 4, 2, 4, 0, (0), (0), [], 0))) (cond (Nat.ble 16 pc) ((16, .baload, 1, 0, 0, (0), (0), [], 0)) ((14, .iload 5, 2, 5, 0, (0), (0), [], 0))))) (cond (Nat.ble 5 pc) (cond (Nat.ble 9 pc) (cond (Nat.ble 10 pc) (cond (Nat.ble 13 pc) ((13, .aload_n 0, 1, 0, 0, (0), (0), [], 0)) ((10, .if_icmp .ge 21, 3, 31, 0, (0), (0), [], 0))) ((9, .iload_n 3, 1, 3, 0, (0), (0), [], 0))) (cond (Nat.ble 7 pc) ((7, .iload 5, 2, 5, 0, (0), (0), [], 0)) ((5, .istore 5, 2, 5, 0, (0), (0), [], 0)))) (cond (Nat.ble 2 pc) (cond (Nat.ble 4 pc) ((4, .iload_n 2, 1, 2, 0, (0), (0), [], 0)) ((2, .istore 4, 2, 4, 0, (0), (0), [], 0))) (cond (Nat.ble 1 pc) ((1, .i2b, 1, 0, 0, (0), (0), [], 0)) ((0, .iload_n 1, 1, 1, 0, (0), (0), [], 0)))))
def pg_199 (pc : Nat) : RI := cond (Nat.ble 18 pc) (cond (Nat.ble 23 pc) (cond (Nat.ble 28 pc) (cond (Nat.ble 31 pc) (cond (Nat.ble 32 pc) ((32, .areturn, 1, 0, 0, (0), (0), [], 0)) ((31, .aload_n 2, 1, 2, 0, (0), (0), [], 0))) ((28, .invokestatic 150, 3, 1000, 5, (0), (0), [], 656))) (cond (Nat.ble 24 pc) (cond (Nat.ble 25 pc) ((25, .invokestatic 304, 3, 1002, 2, (0), (0), [], 655)) ((24, .iload_n 1, 1, 1, 0, (0), (0), [], 0))) ((23, .arraylength, 1, 0, 0, (0), (0), [], 0)))) (cond (Nat.ble 20 pc) (cond (Nat.ble 21 pc) (cond (Nat.ble 22 pc) ((22, .aload_n 0, 1, 0, 0, (0), (0), [], 0)) ((21, .iconst 0, 1, 0, 0, (0), (0), [], 0))) ((20, .aload_n 2, 1, 2, 0, (0), (0), [], 0))) (cond (Nat.ble 19 pc) ((19, .iconst 0, 1, 0, 0, (0), (0), [], 0)) ((18, .aload_n 0, 1, 0, 0, (0), (0), [], 0))))) (cond (Nat.ble 7 pc) (cond (Nat.ble 14 pc) (cond (Nat.ble 15 pc) (cond (Nat.ble 17 pc) ((17, .astore_n 2, 1, 2, 0, (0), (0), [], 0)) ((15, .newarray .int, 2, 0, 0, (0), (0), [], 0))) ((14, .iload_n 1, 1, 1, 0, (0), (0), [], 0))) (cond (Nat.ble 10 pc) (cond (Nat.ble 13 pc) ((13, .areturn, 1, 0, 0, (0), (0), [], 0)) ((10, .checkcast 317, 3, 0, 0, (0), (0), [], 0))) ((7, .invokevirtual 316, 3, 998, 1, (0), (0), [], 648)))) (cond (Nat.ble 2 pc) (cond (Nat.ble 3 pc) (cond (Nat.ble 6 pc) ((6, .aload_n 0, 1, 0, 0, (0), (0), [], 0)) ((3, .if_icmp .ne 11, 3, 14, 0, (0), (0), [], 0))) ((2, .arraylength, 1, 0, 0, (0), (0), [], 0))) (cond (Nat.ble 1 pc) ((1, .aload_n 0, 1, 0, 0, (0), (0), [], 0)) ((0, .iload_n 1, 1, 1, 0, (0), (0), [], 0)))))
def pg_200 (pc : Nat) : RI := cond (Nat.ble 10 pc) (cond (Nat.ble 15 pc) (cond (Nat.ble 18 pc) (cond (Nat.ble 19 pc) ((19, .ireturn, 1, 0, 0, (0), (0), [], 0)) ((18, .iconst 1, 1, 0, 0, (1), (0), [], 0))) ((15, .goto 4, 3, 19, 0, (0), (0), [], 0))) (cond (Nat.ble 11 pc) (cond (Nat.ble 14 pc) ((14, .iconst 0, 1, 0, 0, (0), (0), [], 0)) ((11, .if_icmp .ne 7, 3, 18, 0, (0), (0), [], 0))) ((10, .iload_n 1, 1, 1, 0, (0), (0), [], 0)))) (cond (Nat.ble 5 pc) (cond (Nat.ble 6 pc) (cond (Nat.ble 9 pc) ((9, .iload_n 0, 1, 0, 0, (0), (0), [], 0)) ((6, .goto 13, 3, 19, 0, (0), (0), [], 0))) ((5, .iconst (-1), 1, 0, 0, (-1), (0), [], 0))) (cond (Nat.ble 1 pc) (cond (Nat.ble 2 pc) ((2, .if_icmp .ge 7, 3, 9, 0, (0), (0), [], 0)) ((1, .iload_n 1, 1, 1, 0, (0), (0), [], 0))) ((0, .iload_n 0, 1, 0, 0, (0), (0), [], 0))))
def pg_201 (pc : Nat) : RI := cond (Nat.ble 742 pc) (cond (Nat.ble 1053 pc) (cond (Nat.ble 1193 pc) (cond (Nat.ble 1272 pc) (cond (Nat.ble 1310 pc) (cond (Nat.ble 1328 pc) (cond (Nat.ble 1336 pc) (cond (Nat.ble 1344 pc) (cond (Nat.ble 1350 pc) (cond (Nat.ble 1351 pc) ((1351, .ireturn, 1, 1, 0, (0), (0), [], 0)) ((1350, .iconst 1, 1, 0, 0, (1), (0), [], 0))) (cond (Nat.ble 1347 pc) ((1347, .goto (-1329), 3, 18, 0, (0), (0), [], 0)) ((1344, .iinc 3 8, 3, 3, 0, (8), (0), [], 0)))) (cond (Nat.ble 1342 pc) (cond (Nat.ble 1343 pc) ((1343, .ireturn, 1, 1, 0, (0), (0), [], 0)) ((1342, .iconst 0, 1, 0, 0, (0), (0), [], 0))) (cond (Nat.ble 1339 pc) ((1339, .if_icmp .eq 5, 3, 1344, 0, (0), (0), [], 0)) ((1336, .invokevirtual 142, 3, 185, 3, (0), (0), [], 1550))))) (cond (Nat.ble 1332 pc) (cond (Nat.ble 1334 pc) (cond (Nat.ble 1335 pc) ((1335, .iaload, 1, 0, 0, (0), (0), [], 0)) ((1334, .iadd, 1, 0, 0, (0), (0), [], 0))) (cond (Nat.ble 1333 pc) ((1333, .iconst 2, 1, 0, 0, (2), (0), [], 0)) ((1332, .iload_n 3, 1, 3, 0, (0), (0), [], 0)))) (cond (Nat.ble 1330 pc) (cond (Nat.ble 1331 pc) ((1331, .aload_n 0, 1, 0, 0, (0), (0), [], 0)) ((1330, .iaload, 1, 0, 0, (0), (0), [], 0))) (cond (Nat.ble 1329 pc) ((1329, .iadd, 1, 0, 0, (0), (0), [], 0)) ((1328, .iconst 1, 1, 0, 0, (1), (0), [], 0)))))) (cond (Nat.ble 1318 pc) (cond (Nat.ble 1322 pc) (cond (Nat.ble 1326 pc) (cond (Nat.ble 1327 pc) ((1327, .iload_n 3, 1, 3, 0, (0), (0), [], 0)) ((1326, .aload_n 0, 1, 0, 0, (0), (0), [], 0))) (cond (Nat.ble 1325 pc) ((1325, .aload_n 2, 1, 2, 0, (0), (0), [], 0)) ((1322, .invokevirtual 139, 3, 117, 3, (0), (0), [], 1076)))) (cond (Nat.ble 1320 pc) (cond (Nat.ble 1321 pc) ((1321, .iaload, 1, 0, 0, (0), (0), [], 0)) ((1320, .iadd, 1, 0, 0, (0), (0), [], 0))) (cond (Nat.ble 1319 pc) ((1319, .iconst 2, 1, 0, 0, (2), (0), [], 0)) ((1318, .iload_n 3, 1, 3, 0, (0), (0), [], 0))))) (cond (Nat.ble 1314 pc) (cond (Nat.ble 1316 pc) (cond (Nat.ble 1317 pc) ((1317, .aload_n 0, 1, 0, 0, (0), (0), [], 0)) ((1316, .iaload, 1, 0, 0, (0), (0), [], 0))) (cond (Nat.ble 1315 pc) ((1315, .iadd, 1, 0, 0, (0), (0), [], 0)) ((1314, .iconst 1, 1, 0, 0, (1), (0), [], 0)))) (cond (Nat.ble 1312 pc) (cond (Nat.ble 1313 pc) ((1313, .iload_n 3, 1, 3, 0, (0), (0), [], 0)) ((1312, .aload_n 0, 1, 0, 0, (0), (0), [], 0))) (cond (Nat.ble 1311 pc) ((1311, .aload_n 1, 1, 1, 0, (0), (0), [], 0)) ((1310, .ireturn, 1, 1, 0, (0), (0), [], 0))))))) (cond (Nat.ble 1290 pc) (cond (Nat.ble 1298 pc) (cond (Nat.ble 1302 pc) (cond (Nat.ble 1306 pc) (cond (Nat.ble 1309 pc) ((1309, .iconst 0, 1, 0, 0, (0), (0), [], 0)) ((1306, .if_icmp .eq 38, 3, 1344, 0, (0), (0), [], 0))) (cond (Nat.ble 1303 pc) ((1303, .invokevirtual 138, 3, 184, 4, (0), (0), [], 1546)) ((1302, .iaload, 1, 0, 0, (0), (0), [], 0)))) (cond (Nat.ble 1300 pc) (cond (Nat.ble 1301 pc) ((1301, .iadd, 1, 0, 0, (0), (0), [], 0)) ((1300, .iconst 3, 1, 0, 0, (3), (0), [], 0))) (cond (Nat.ble 1299 pc) ((1299, .iload_n 3, 1, 3, 0, (0), (0), [], 0)) ((1298, .aload_n 0, 1, 0, 0, (0), (0), [], 0))))) (cond (Nat.ble 1294 pc) (cond (Nat.ble 1296 pc) (cond (Nat.ble 1297 pc) ((1297, .iaload, 1, 0, 0, (0), (0), [], 0)) ((1296, .iadd, 1, 0, 0, (0), (0), [], 0))) (cond (Nat.ble 1295 pc) ((1295, .iconst 2, 1, 0, 0, (2), (0), [], 0)) ((1294, .iload_n 3, 1, 3, 0, (0), (0), [], 0)))) (cond (Nat.ble 1292 pc) (cond (Nat.ble 1293 pc) ((1293, .aload_n 0, 1, 0, 0, (0), (0), [], 0)) ((1292, .iaload, 1, 0, 0, (0), (0), [], 0))) (cond (Nat.ble 1291 pc) ((1291, .iadd, 1, 0, 0, (0), (0), [], 0)) ((1290, .iconst 1, 1, 0, 0, (1), (0), [], 0)))))) (cond (Nat.ble 1280 pc) (cond (Nat.ble 1284 pc) (cond (Nat.ble 1288 pc) (cond (Nat.ble 1289 pc) ((1289, .iload_n 3, 1, 3, 0, (0), (0), [], 0)) ((1288, .aload_n 0, 1, 0, 0, (0), (0), [], 0))) (cond (Nat.ble 1287 pc) ((1287, .aload_n 2, 1, 2, 0, (0), (0), [], 0)) ((1284, .invokevirtual 135, 3, 116, 4, (0), (0), [], 1068)))) (cond (Nat.ble 1282 pc) (cond (Nat.ble 1283 pc) ((1283, .iaload, 1, 0, 0, (0), (0), [], 0)) ((1282, .iadd, 1, 0, 0, (0), (0), [], 0))) (cond (Nat.ble 1281 pc) ((1281, .iconst 3, 1, 0, 0, (3), (0), [], 0)) ((1280, .iload_n 3, 1, 3, 0, (0), (0), [], 0))))) (cond (Nat.ble 1276 pc) (cond (Nat.ble 1278 pc) (cond (Nat.ble 1279 pc) ((1279, .aload_n 0, 1, 0, 0, (0), (0), [], 0)) ((1278, .iaload, 1, 0, 0, (0), (0), [], 0))) (cond (Nat.ble 1277 pc) ((1277, .iadd, 1, 0, 0, (0), (0), [], 0)) ((1276, .iconst 2, 1, 0, 0, (2), (0), [], 0)))) (cond (Nat.ble 1274 pc) (cond (Nat.ble 1275 pc) ((1275, .iload_n 3, 1, 3, 0, (0), (0), [], 0)) ((1274, .aload_n 0, 1, 0, 0, (0), (0), [], 0))) (cond (Nat.ble 1273 pc) ((1273, .iaload, 1, 0, 0, (0), (0), [], 0)) ((1272, .iadd, 1, 0, 0, (0), (0), [], 0)))))))) (cond (Nat.ble 1234 pc) (cond (Nat.ble 1252 pc) (cond (Nat.ble 1260 pc) (cond (Nat.ble 1268 pc) (cond (Nat.ble 1270 pc) (cond (Nat.ble 1271 pc) ((1271, .iconst 1, 1, 0, 0, (1), (0), [], 0)) ((1270, .iload_n 3, 1, 3, 0, (0), (0), [], 0))) (cond (Nat.ble 1269 pc) ((1269, .aload_n 0, 1, 0, 0, (0), (0), [], 0)) ((1268, .aload_n 1, 1, 1, 0, (0), (0), [], 0)))) (cond (Nat.ble 1266 pc) (cond (Nat.ble 1267 pc) ((1267, .ireturn, 1, 1, 0, (0), (0), [], 0)) ((1266, .iconst 0, 1, 0, 0, (0), (0), [], 0))) (cond (Nat.ble 1263 pc) ((1263, .if_icmp .eq 81, 3, 1344, 0, (0), (0), [], 0)) ((1260, .invokevirtual 134, 3, 183, 4, (0), (0), [], 1542))))) (cond (Nat.ble 1256 pc) (cond (Nat.ble 1258 pc) (cond (Nat.ble 1259 pc) ((1259, .iaload, 1, 0, 0, (0), (0), [], 0)) ((1258, .iadd, 1, 0, 0, (0), (0), [], 0))) (cond (Nat.ble 1257 pc) ((1257, .iconst 3, 1, 0, 0, (3), (0), [], 0)) ((1256, .iload_n 3, 1, 3, 0, (0), (0), [], 0)))) (cond (Nat.ble 1254 pc) (cond (Nat.ble 1255 pc) ((1255, .aload_n 0, 1, 0, 0, (0), (0), [], 0)) ((1254, .iaload, 1, 0, 0, (0), (0), [], 0))) (cond (Nat.ble 1253 pc) ((1253, .iadd, 1, 0, 0, (0), (0), [], 0)) ((1252, .iconst 2, 1, 0, 0, (2), (0), [], 0)))))) (cond (Nat.ble 1244 pc) (cond (Nat.ble 1248 pc) (cond (Nat.ble 1250 pc) (cond (Nat.ble 1251 pc) ((1251, .iload_n 3, 1, 3, 0, (0), (0), [], 0)) ((1250, .aload_n 0, 1, 0, 0, (0), (0), [], 0))) (cond (Nat.ble 1249 pc) ((1249, .iaload, 1, 0, 0, (0), (0), [], 0)) ((1248, .iadd, 1, 0, 0, (0), (0), [], 0)))) (cond (Nat.ble 1246 pc) (cond (Nat.ble 1247 pc) ((1247, .iconst 1, 1, 0, 0, (1), (0), [], 0)) ((1246, .iload_n 3, 1, 3, 0, (0), (0), [], 0))) (cond (Nat.ble 1245 pc) ((1245, .aload_n 0, 1, 0, 0, (0), (0), [], 0)) ((1244, .aload_n 2, 1, 2, 0, (0), (0), [], 0))))) (cond (Nat.ble 1238 pc) (cond (Nat.ble 1240 pc) (cond (Nat.ble 1241 pc) ((1241, .invokevirtual 131, 3, 115, 4, (0), (0), [], 1059)) ((1240, .iaload, 1, 0, 0, (0), (0), [], 0))) (cond (Nat.ble 1239 pc) ((1239, .iadd, 1, 0, 0, (0), (0), [], 0)) ((1238, .iconst 3, 1, 0, 0, (3), (0), [], 0)))) (cond (Nat.ble 1236 pc) (cond (Nat.ble 1237 pc) ((1237, .iload_n 3, 1, 3, 0, (0), (0), [], 0)) ((1236, .aload_n 0, 1, 0, 0, (0), (0), [], 0))) (cond (Nat.ble 1235 pc) ((1235, .iaload, 1, 0, 0, (0), (0), [], 0)) ((1234, .iadd, 1, 0, 0, (0), (0), [], 0))))))) (cond (Nat.ble 1214 pc) (cond (Nat.ble 1226 pc) (cond (Nat.ble 1230 pc) (cond (Nat.ble 1232 pc) (cond (Nat.ble 1233 pc) ((1233, .iconst 2, 1, 0, 0, (2), (0), [], 0)) ((1232, .iload_n 3, 1, 3, 0, (0), (0), [], 0))) (cond (Nat.ble 1231 pc) ((1231, .aload_n 0, 1, 0, 0, (0), (0), [], 0)) ((1230, .iaload, 1, 0, 0, (0), (0), [], 0)))) (cond (Nat.ble 1228 pc) (cond (Nat.ble 1229 pc) ((1229, .iadd, 1, 0, 0, (0), (0), [], 0)) ((1228, .iconst 1, 1, 0, 0, (1), (0), [], 0))) (cond (Nat.ble 1227 pc) ((1227, .iload_n 3, 1, 3, 0, (0), (0), [], 0)) ((1226, .aload_n 0, 1, 0, 0, (0), (0), [], 0))))) (cond (Nat.ble 1220 pc) (cond (Nat.ble 1224 pc) (cond (Nat.ble 1225 pc) ((1225, .aload_n 1, 1, 1, 0, (0), (0), [], 0)) ((1224, .ireturn, 1, 1, 0, (0), (0), [], 0))) (cond (Nat.ble 1223 pc) ((1223, .iconst 0, 1, 0, 0, (0), (0), [], 0)) ((1220, .if_icmp .eq 124, 3, 1344, 0, (0), (0), [], 0)))) (cond (Nat.ble 1216 pc) (cond (Nat.ble 1217 pc) ((1217, .invokevirtual 130, 3, 182, 2, (0), (0), [], 1538)) ((1216, .iaload, 1, 0, 0, (0), (0), [], 0))) (cond (Nat.ble 1215 pc) ((1215, .iadd, 1, 0, 0, (0), (0), [], 0)) ((1214, .iconst 1, 1, 0, 0, (1), (0), [], 0)))))) (cond (Nat.ble 1204 pc) (cond (Nat.ble 1208 pc) (cond (Nat.ble 1212 pc) (cond (Nat.ble 1213 pc) ((1213, .iload_n 3, 1, 3, 0, (0), (0), [], 0)) ((1212, .aload_n 0, 1, 0, 0, (0), (0), [], 0))) (cond (Nat.ble 1211 pc) ((1211, .aload_n 2, 1, 2, 0, (0), (0), [], 0)) ((1208, .invokevirtual 127, 3, 112, 2, (0), (0), [], 1047)))) (cond (Nat.ble 1206 pc) (cond (Nat.ble 1207 pc) ((1207, .iaload, 1, 0, 0, (0), (0), [], 0)) ((1206, .iadd, 1, 0, 0, (0), (0), [], 0))) (cond (Nat.ble 1205 pc) ((1205, .iconst 1, 1, 0, 0, (1), (0), [], 0)) ((1204, .iload_n 3, 1, 3, 0, (0), (0), [], 0))))) (cond (Nat.ble 1200 pc) (cond (Nat.ble 1202 pc) (cond (Nat.ble 1203 pc) ((1203, .aload_n 0, 1, 0, 0, (0), (0), [], 0)) ((1202, .aload_n 1, 1, 1, 0, (0), (0), [], 0))) (cond (Nat.ble 1201 pc) ((1201, .ireturn, 1, 1, 0, (0), (0), [], 0)) ((1200, .iconst 0, 1, 0, 0, (0), (0), [], 0)))) (cond (Nat.ble 1194 pc) (cond (Nat.ble 1197 pc) ((1197, .if_icmp .eq 147, 3, 1344, 0, (0), (0), [], 0)) ((1194, .invokevirtual 126, 3, 181, 5, (0), (0), [], 1534))) ((1193, .iaload, 1, 0, 0, (0), (0), [], 0)))))))) (cond (Nat.ble 1124 pc) (cond (Nat.ble 1159 pc) (cond (Nat.ble 1177 pc) (cond (Nat.ble 1185 pc) (cond (Nat.ble 1189 pc) (cond (Nat.ble 1191 pc) (cond (Nat.ble 1192 pc) ((1192, .iadd, 1, 0, 0, (0), (0), [], 0)) ((1191, .iconst 4, 1, 0, 0, (4), (0), [], 0))) (cond (Nat.ble 1190 pc) ((1190, .iload_n 3, 1, 3, 0, (0), (0), [], 0)) ((1189, .aload_n 0, 1, 0, 0, (0), (0), [], 0)))) (cond (Nat.ble 1187 pc) (cond (Nat.ble 1188 pc) ((1188, .iaload, 1, 0, 0, (0), (0), [], 0)) ((1187, .iadd, 1, 0, 0, (0), (0), [], 0))) (cond (Nat.ble 1186 pc) ((1186, .iconst 3, 1, 0, 0, (3), (0), [], 0)) ((1185, .iload_n 3, 1, 3, 0, (0), (0), [], 0))))) (cond (Nat.ble 1181 pc) (cond (Nat.ble 1183 pc) (cond (Nat.ble 1184 pc) ((1184, .aload_n 0, 1, 0, 0, (0), (0), [], 0)) ((1183, .iaload, 1, 0, 0, (0), (0), [], 0))) (cond (Nat.ble 1182 pc) ((1182, .iadd, 1, 0, 0, (0), (0), [], 0)) ((1181, .iconst 2, 1, 0, 0, (2), (0), [], 0)))) (cond (Nat.ble 1179 pc) (cond (Nat.ble 1180 pc) ((1180, .iload_n 3, 1, 3, 0, (0), (0), [], 0)) ((1179, .aload_n 0, 1, 0, 0, (0), (0), [], 0))) (cond (Nat.ble 1178 pc) ((1178, .iaload, 1, 0, 0, (0), (0), [], 0)) ((1177, .iadd, 1, 0, 0, (0), (0), [], 0)))))) (cond (Nat.ble 1167 pc) (cond (Nat.ble 1173 pc) (cond (Nat.ble 1175 pc) (cond (Nat.ble 1176 pc) ((1176, .iconst 1, 1, 0, 0, (1), (0), [], 0)) ((1175, .iload_n 3, 1, 3, 0, (0), (0), [], 0))) (cond (Nat.ble 1174 pc) ((1174, .aload_n 0, 1, 0, 0, (0), (0), [], 0)) ((1173, .aload_n 2, 1, 2, 0, (0), (0), [], 0)))) (cond (Nat.ble 1169 pc) (cond (Nat.ble 1170 pc) ((1170, .invokevirtual 123, 3, 111, 5, (0), (0), [], 1043)) ((1169, .iaload, 1, 0, 0, (0), (0), [], 0))) (cond (Nat.ble 1168 pc) ((1168, .iadd, 1, 0, 0, (0), (0), [], 0)) ((1167, .iconst 4, 1, 0, 0, (4), (0), [], 0))))) (cond (Nat.ble 1163 pc) (cond (Nat.ble 1165 pc) (cond (Nat.ble 1166 pc) ((1166, .iload_n 3, 1, 3, 0, (0), (0), [], 0)) ((1165, .aload_n 0, 1, 0, 0, (0), (0), [], 0))) (cond (Nat.ble 1164 pc) ((1164, .iaload, 1, 0, 0, (0), (0), [], 0)) ((1163, .iadd, 1, 0, 0, (0), (0), [], 0)))) (cond (Nat.ble 1161 pc) (cond (Nat.ble 1162 pc) ((1162, .iconst 3, 1, 0, 0, (3), (0), [], 0)) ((1161, .iload_n 3, 1, 3, 0, (0), (0), [], 0))) (cond (Nat.ble 1160 pc) ((1160, .aload_n 0, 1, 0, 0, (0), (0), [], 0)) ((1159, .iaload, 1, 0, 0, (0), (0), [], 0))))))) (cond (Nat.ble 1139 pc) (cond (Nat.ble 1151 pc) (cond (Nat.ble 1155 pc) (cond (Nat.ble 1157 pc) (cond (Nat.ble 1158 pc) ((1158, .iadd, 1, 0, 0, (0), (0), [], 0)) ((1157, .iconst 2, 1, 0, 0, (2), (0), [], 0))) (cond (Nat.ble 1156 pc) ((1156, .iload_n 3, 1, 3, 0, (0), (0), [], 0)) ((1155, .aload_n 0, 1, 0, 0, (0), (0), [], 0)))) (cond (Nat.ble 1153 pc) (cond (Nat.ble 1154 pc) ((1154, .iaload, 1, 0, 0, (0), (0), [], 0)) ((1153, .iadd, 1, 0, 0, (0), (0), [], 0))) (cond (Nat.ble 1152 pc) ((1152, .iconst 1, 1, 0, 0, (1), (0), [], 0)) ((1151, .iload_n 3, 1, 3, 0, (0), (0), [], 0))))) (cond (Nat.ble 1147 pc) (cond (Nat.ble 1149 pc) (cond (Nat.ble 1150 pc) ((1150, .aload_n 0, 1, 0, 0, (0), (0), [], 0)) ((1149, .aload_n 1, 1, 1, 0, (0), (0), [], 0))) (cond (Nat.ble 1148 pc) ((1148, .ireturn, 1, 1, 0, (0), (0), [], 0)) ((1147, .iconst 0, 1, 0, 0, (0), (0), [], 0)))) (cond (Nat.ble 1143 pc) (cond (Nat.ble 1144 pc) ((1144, .ifCond .eq 200, 3, 1344, 0, (0), (0), [], 0)) ((1143, .lcmp, 1, 0, 0, (0), (0), [], 0))) (cond (Nat.ble 1140 pc) ((1140, .invokevirtual 122, 3, 176, 5, (0), (0), [], 1514)) ((1139, .iaload, 1, 0, 0, (0), (0), [], 0)))))) (cond (Nat.ble 1131 pc) (cond (Nat.ble 1135 pc) (cond (Nat.ble 1137 pc) (cond (Nat.ble 1138 pc) ((1138, .iadd, 1, 0, 0, (0), (0), [], 0)) ((1137, .iconst 4, 1, 0, 0, (4), (0), [], 0))) (cond (Nat.ble 1136 pc) ((1136, .iload_n 3, 1, 3, 0, (0), (0), [], 0)) ((1135, .aload_n 0, 1, 0, 0, (0), (0), [], 0)))) (cond (Nat.ble 1133 pc) (cond (Nat.ble 1134 pc) ((1134, .iaload, 1, 0, 0, (0), (0), [], 0)) ((1133, .iadd, 1, 0, 0, (0), (0), [], 0))) (cond (Nat.ble 1132 pc) ((1132, .iconst 3, 1, 0, 0, (3), (0), [], 0)) ((1131, .iload_n 3, 1, 3, 0, (0), (0), [], 0))))) (cond (Nat.ble 1127 pc) (cond (Nat.ble 1129 pc) (cond (Nat.ble 1130 pc) ((1130, .aload_n 0, 1, 0, 0, (0), (0), [], 0)) ((1129, .iaload, 1, 0, 0, (0), (0), [], 0))) (cond (Nat.ble 1128 pc) ((1128, .iadd, 1, 0, 0, (0), (0), [], 0)) ((1127, .iconst 2, 1, 0, 0, (2), (0), [], 0)))) (cond (Nat.ble 1125 pc) (cond (Nat.ble 1126 pc) ((1126, .iload_n 3, 1, 3, 0, (0), (0), [], 0)) ((1125, .aload_n 0, 1, 0, 0, (0), (0), [], 0))) ((1124, .iaload, 1, 0, 0, (0), (0), [], 0))))))) (cond (Nat.ble 1086 pc) (cond (Nat.ble 1106 pc) (cond (Nat.ble 1114 pc) (cond (Nat.ble 1120 pc) (cond (Nat.ble 1122 pc) (cond (Nat.ble 1123 pc) ((1123, .iadd, 1, 0, 0, (0), (0), [], 0)) ((1122, .iconst 1, 1, 0, 0, (1), (0), [], 0))) (cond (Nat.ble 1121 pc) ((1121, .iload_n 3, 1, 3, 0, (0), (0), [], 0)) ((1120, .aload_n 0, 1, 0, 0, (0), (0), [], 0)))) (cond (Nat.ble 1116 pc) (cond (Nat.ble 1119 pc) ((1119, .aload_n 2, 1, 2, 0, (0), (0), [], 0)) ((1116, .invokevirtual 118, 3, 108, 5, (0), (0), [], 992))) (cond (Nat.ble 1115 pc) ((1115, .iaload, 1, 0, 0, (0), (0), [], 0)) ((1114, .iadd, 1, 0, 0, (0), (0), [], 0))))) (cond (Nat.ble 1110 pc) (cond (Nat.ble 1112 pc) (cond (Nat.ble 1113 pc) ((1113, .iconst 4, 1, 0, 0, (4), (0), [], 0)) ((1112, .iload_n 3, 1, 3, 0, (0), (0), [], 0))) (cond (Nat.ble 1111 pc) ((1111, .aload_n 0, 1, 0, 0, (0), (0), [], 0)) ((1110, .iaload, 1, 0, 0, (0), (0), [], 0)))) (cond (Nat.ble 1108 pc) (cond (Nat.ble 1109 pc) ((1109, .iadd, 1, 0, 0, (0), (0), [], 0)) ((1108, .iconst 3, 1, 0, 0, (3), (0), [], 0))) (cond (Nat.ble 1107 pc) ((1107, .iload_n 3, 1, 3, 0, (0), (0), [], 0)) ((1106, .aload_n 0, 1, 0, 0, (0), (0), [], 0)))))) (cond (Nat.ble 1098 pc) (cond (Nat.ble 1102 pc) (cond (Nat.ble 1104 pc) (cond (Nat.ble 1105 pc) ((1105, .iaload, 1, 0, 0, (0), (0), [], 0)) ((1104, .iadd, 1, 0, 0, (0), (0), [], 0))) (cond (Nat.ble 1103 pc) ((1103, .iconst 2, 1, 0, 0, (2), (0), [], 0)) ((1102, .iload_n 3, 1, 3, 0, (0), (0), [], 0)))) (cond (Nat.ble 1100 pc) (cond (Nat.ble 1101 pc) ((1101, .aload_n 0, 1, 0, 0, (0), (0), [], 0)) ((1100, .iaload, 1, 0, 0, (0), (0), [], 0))) (cond (Nat.ble 1099 pc) ((1099, .iadd, 1, 0, 0, (0), (0), [], 0)) ((1098, .iconst 1, 1, 0, 0, (1), (0), [], 0))))) (cond (Nat.ble 1094 pc) (cond (Nat.ble 1096 pc) (cond (Nat.ble 1097 pc) ((1097, .iload_n 3, 1, 3, 0, (0), (0), [], 0)) ((1096, .aload_n 0, 1, 0, 0, (0), (0), [], 0))) (cond (Nat.ble 1095 pc) ((1095, .aload_n 1, 1, 1, 0, (0), (0), [], 0)) ((1094, .ireturn, 1, 1, 0, (0), (0), [], 0)))) (cond (Nat.ble 1090 pc) (cond (Nat.ble 1093 pc) ((1093, .iconst 0, 1, 0, 0, (0), (0), [], 0)) ((1090, .ifCond .eq 254, 3, 1344, 0, (0), (0), [], 0))) (cond (Nat.ble 1089 pc) ((1089, .lcmp, 1, 0, 0, (0), (0), [], 0)) ((1086, .invokevirtual 117, 3, 175, 8, (0), (0), [], 1506))))))) (cond (Nat.ble 1068 pc) (cond (Nat.ble 1076 pc) (cond (Nat.ble 1081 pc) (cond (Nat.ble 1084 pc) (cond (Nat.ble 1085 pc) ((1085, .iaload, 1, 0, 0, (0), (0), [], 0)) ((1084, .iadd, 1, 0, 0, (0), (0), [], 0))) (cond (Nat.ble 1082 pc) ((1082, .bipush 7, 2, 0, 0, (7), (0), [], 0)) ((1081, .iload_n 3, 1, 3, 0, (0), (0), [], 0)))) (cond (Nat.ble 1079 pc) (cond (Nat.ble 1080 pc) ((1080, .aload_n 0, 1, 0, 0, (0), (0), [], 0)) ((1079, .iaload, 1, 0, 0, (0), (0), [], 0))) (cond (Nat.ble 1078 pc) ((1078, .iadd, 1, 0, 0, (0), (0), [], 0)) ((1076, .bipush 6, 2, 0, 0, (6), (0), [], 0))))) (cond (Nat.ble 1072 pc) (cond (Nat.ble 1074 pc) (cond (Nat.ble 1075 pc) ((1075, .iload_n 3, 1, 3, 0, (0), (0), [], 0)) ((1074, .aload_n 0, 1, 0, 0, (0), (0), [], 0))) (cond (Nat.ble 1073 pc) ((1073, .iaload, 1, 0, 0, (0), (0), [], 0)) ((1072, .iadd, 1, 0, 0, (0), (0), [], 0)))) (cond (Nat.ble 1070 pc) (cond (Nat.ble 1071 pc) ((1071, .iconst 5, 1, 0, 0, (5), (0), [], 0)) ((1070, .iload_n 3, 1, 3, 0, (0), (0), [], 0))) (cond (Nat.ble 1069 pc) ((1069, .aload_n 0, 1, 0, 0, (0), (0), [], 0)) ((1068, .iaload, 1, 0, 0, (0), (0), [], 0)))))) (cond (Nat.ble 1060 pc) (cond (Nat.ble 1064 pc) (cond (Nat.ble 1066 pc) (cond (Nat.ble 1067 pc) ((1067, .iadd, 1, 0, 0, (0), (0), [], 0)) ((1066, .iconst 4, 1, 0, 0, (4), (0), [], 0))) (cond (Nat.ble 1065 pc) ((1065, .iload_n 3, 1, 3, 0, (0), (0), [], 0)) ((1064, .aload_n 0, 1, 0, 0, (0), (0), [], 0)))) (cond (Nat.ble 1062 pc) (cond (Nat.ble 1063 pc) ((1063, .iaload, 1, 0, 0, (0), (0), [], 0)) ((1062, .iadd, 1, 0, 0, (0), (0), [], 0))) (cond (Nat.ble 1061 pc) ((1061, .iconst 3, 1, 0, 0, (3), (0), [], 0)) ((1060, .iload_n 3, 1, 3, 0, (0), (0), [], 0))))) (cond (Nat.ble 1056 pc) (cond (Nat.ble 1058 pc) (cond (Nat.ble 1059 pc) ((1059, .aload_n 0, 1, 0, 0, (0), (0), [], 0)) ((1058, .iaload, 1, 0, 0, (0), (0), [], 0))) (cond (Nat.ble 1057 pc) ((1057, .iadd, 1, 0, 0, (0), (0), [], 0)) ((1056, .iconst 2, 1, 0, 0, (2), (0), [], 0)))) (cond (Nat.ble 1054 pc) (cond (Nat.ble 1055 pc) ((1055, .iload_n 3, 1, 3, 0, (0), (0), [], 0)) ((1054, .aload_n 0, 1, 0, 0, (0), (0), [], 0))) ((1053, .iaload, 1, 0, 0, (0), (0), [], 0))))))))) (cond (Nat.ble 894 pc) (cond (Nat.ble 975 pc) (cond (Nat.ble 1017 pc) (cond (Nat.ble 1033 pc) (cond (Nat.ble 1043 pc) (cond (Nat.ble 1049 pc) (cond (Nat.ble 1051 pc) (cond (Nat.ble 1052 pc) ((1052, .iadd, 1, 0, 0, (0), (0), [], 0)) ((1051, .iconst 1, 1, 0, 0, (1), (0), [], 0))) (cond (Nat.ble 1050 pc) ((1050, .iload_n 3, 1, 3, 0, (0), (0), [], 0)) ((1049, .aload_n 0, 1, 0, 0, (0), (0), [], 0)))) (cond (Nat.ble 1045 pc) (cond (Nat.ble 1048 pc) ((1048, .aload_n 2, 1, 2, 0, (0), (0), [], 0)) ((1045, .invokevirtual 113, 3, 107, 8, (0), (0), [], 985))) (cond (Nat.ble 1044 pc) ((1044, .iaload, 1, 0, 0, (0), (0), [], 0)) ((1043, .iadd, 1, 0, 0, (0), (0), [], 0))))) (cond (Nat.ble 1038 pc) (cond (Nat.ble 1040 pc) (cond (Nat.ble 1041 pc) ((1041, .bipush 7, 2, 0, 0, (7), (0), [], 0)) ((1040, .iload_n 3, 1, 3, 0, (0), (0), [], 0))) (cond (Nat.ble 1039 pc) ((1039, .aload_n 0, 1, 0, 0, (0), (0), [], 0)) ((1038, .iaload, 1, 0, 0, (0), (0), [], 0)))) (cond (Nat.ble 1035 pc) (cond (Nat.ble 1037 pc) ((1037, .iadd, 1, 0, 0, (0), (0), [], 0)) ((1035, .bipush 6, 2, 0, 0, (6), (0), [], 0))) (cond (Nat.ble 1034 pc) ((1034, .iload_n 3, 1, 3, 0, (0), (0), [], 0)) ((1033, .aload_n 0, 1, 0, 0, (0), (0), [], 0)))))) (cond (Nat.ble 1025 pc) (cond (Nat.ble 1029 pc) (cond (Nat.ble 1031 pc) (cond (Nat.ble 1032 pc) ((1032, .iaload, 1, 0, 0, (0), (0), [], 0)) ((1031, .iadd, 1, 0, 0, (0), (0), [], 0))) (cond (Nat.ble 1030 pc) ((1030, .iconst 5, 1, 0, 0, (5), (0), [], 0)) ((1029, .iload_n 3, 1, 3, 0, (0), (0), [], 0)))) (cond (Nat.ble 1027 pc) (cond (Nat.ble 1028 pc) ((1028, .aload_n 0, 1, 0, 0, (0), (0), [], 0)) ((1027, .iaload, 1, 0, 0, (0), (0), [], 0))) (cond (Nat.ble 1026 pc) ((1026, .iadd, 1, 0, 0, (0), (0), [], 0)) ((1025, .iconst 4, 1, 0, 0, (4), (0), [], 0))))) (cond (Nat.ble 1021 pc) (cond (Nat.ble 1023 pc) (cond (Nat.ble 1024 pc) ((1024, .iload_n 3, 1, 3, 0, (0), (0), [], 0)) ((1023, .aload_n 0, 1, 0, 0, (0), (0), [], 0))) (cond (Nat.ble 1022 pc) ((1022, .iaload, 1, 0, 0, (0), (0), [], 0)) ((1021, .iadd, 1, 0, 0, (0), (0), [], 0)))) (cond (Nat.ble 1019 pc) (cond (Nat.ble 1020 pc) ((1020, .iconst 3, 1, 0, 0, (3), (0), [], 0)) ((1019, .iload_n 3, 1, 3, 0, (0), (0), [], 0))) (cond (Nat.ble 1018 pc) ((1018, .aload_n 0, 1, 0, 0, (0), (0), [], 0)) ((1017, .iaload, 1, 0, 0, (0), (0), [], 0))))))) (cond (Nat.ble 997 pc) (cond (Nat.ble 1009 pc) (cond (Nat.ble 1013 pc) (cond (Nat.ble 1015 pc) (cond (Nat.ble 1016 pc) ((1016, .iadd, 1, 0, 0, (0), (0), [], 0)) ((1015, .iconst 2, 1, 0, 0, (2), (0), [], 0))) (cond (Nat.ble 1014 pc) ((1014, .iload_n 3, 1, 3, 0, (0), (0), [], 0)) ((1013, .aload_n 0, 1, 0, 0, (0), (0), [], 0)))) (cond (Nat.ble 1011 pc) (cond (Nat.ble 1012 pc) ((1012, .iaload, 1, 0, 0, (0), (0), [], 0)) ((1011, .iadd, 1, 0, 0, (0), (0), [], 0))) (cond (Nat.ble 1010 pc) ((1010, .iconst 1, 1, 0, 0, (1), (0), [], 0)) ((1009, .iload_n 3, 1, 3, 0, (0), (0), [], 0))))) (cond (Nat.ble 1005 pc) (cond (Nat.ble 1007 pc) (cond (Nat.ble 1008 pc) ((1008, .aload_n 0, 1, 0, 0, (0), (0), [], 0)) ((1007, .aload_n 1, 1, 1, 0, (0), (0), [], 0))) (cond (Nat.ble 1006 pc) ((1006, .ireturn, 1, 1, 0, (0), (0), [], 0)) ((1005, .iconst 0, 1, 0, 0, (0), (0), [], 0)))) (cond (Nat.ble 999 pc) (cond (Nat.ble 1002 pc) ((1002, .if_icmp .eq 342, 3, 1344, 0, (0), (0), [], 0)) ((999, .invokevirtual 112, 3, 174, 2, (0), (0), [], 1502))) (cond (Nat.ble 998 pc) ((998, .iaload, 1, 0, 0, (0), (0), [], 0)) ((997, .iadd, 1, 0, 0, (0), (0), [], 0)))))) (cond (Nat.ble 987 pc) (cond (Nat.ble 993 pc) (cond (Nat.ble 995 pc) (cond (Nat.ble 996 pc) ((996, .iconst 1, 1, 0, 0, (1), (0), [], 0)) ((995, .iload_n 3, 1, 3, 0, (0), (0), [], 0))) (cond (Nat.ble 994 pc) ((994, .aload_n 0, 1, 0, 0, (0), (0), [], 0)) ((993, .aload_n 2, 1, 2, 0, (0), (0), [], 0)))) (cond (Nat.ble 989 pc) (cond (Nat.ble 990 pc) ((990, .invokevirtual 109, 3, 105, 2, (0), (0), [], 977)) ((989, .iaload, 1, 0, 0, (0), (0), [], 0))) (cond (Nat.ble 988 pc) ((988, .iadd, 1, 0, 0, (0), (0), [], 0)) ((987, .iconst 1, 1, 0, 0, (1), (0), [], 0))))) (cond (Nat.ble 983 pc) (cond (Nat.ble 985 pc) (cond (Nat.ble 986 pc) ((986, .iload_n 3, 1, 3, 0, (0), (0), [], 0)) ((985, .aload_n 0, 1, 0, 0, (0), (0), [], 0))) (cond (Nat.ble 984 pc) ((984, .aload_n 1, 1, 1, 0, (0), (0), [], 0)) ((983, .ireturn, 1, 1, 0, (0), (0), [], 0)))) (cond (Nat.ble 979 pc) (cond (Nat.ble 982 pc) ((982, .iconst 0, 1, 0, 0, (0), (0), [], 0)) ((979, .if_icmp .eq 365, 3, 1344, 0, (0), (0), [], 0))) (cond (Nat.ble 976 pc) ((976, .invokevirtual 108, 3, 160, 1, (0), (0), [], 1450)) ((975, .aload_n 2, 1, 2, 0, (0), (0), [], 0)))))))) (cond (Nat.ble 932 pc) (cond (Nat.ble 951 pc) (cond (Nat.ble 961 pc) (cond (Nat.ble 969 pc) (cond (Nat.ble 971 pc) (cond (Nat.ble 972 pc) ((972, .invokevirtual 104, 3, 69, 1, (0), (0), [], 976)) ((971, .aload_n 1, 1, 1, 0, (0), (0), [], 0))) (cond (Nat.ble 970 pc) ((970, .ireturn, 1, 1, 0, (0), (0), [], 0)) ((969, .iconst 0, 1, 0, 0, (0), (0), [], 0)))) (cond (Nat.ble 963 pc) (cond (Nat.ble 966 pc) ((966, .if_icmp .eq 378, 3, 1344, 0, (0), (0), [], 0)) ((963, .invokevirtual 103, 3, 159, 3, (0), (0), [], 1445))) (cond (Nat.ble 962 pc) ((962, .lor, 1, 0, 0, (0), (0), [], 0)) ((961, .land, 1, 0, 0, (0), (0), [], 0))))) (cond (Nat.ble 955 pc) (cond (Nat.ble 957 pc) (cond (Nat.ble 958 pc) ((958, .ldc2_w 97, 3, 0, 0, (0), (4294967295), [], 1554)) ((957, .i2l, 1, 0, 0, (0), (0), [], 0))) (cond (Nat.ble 956 pc) ((956, .iaload, 1, 0, 0, (0), (0), [], 0)) ((955, .iadd, 1, 0, 0, (0), (0), [], 0)))) (cond (Nat.ble 953 pc) (cond (Nat.ble 954 pc) ((954, .iconst 3, 1, 0, 0, (3), (0), [], 0)) ((953, .iload_n 3, 1, 3, 0, (0), (0), [], 0))) (cond (Nat.ble 952 pc) ((952, .aload_n 0, 1, 0, 0, (0), (0), [], 0)) ((951, .lshl, 1, 0, 0, (0), (0), [], 0)))))) (cond (Nat.ble 942 pc) (cond (Nat.ble 946 pc) (cond (Nat.ble 948 pc) (cond (Nat.ble 949 pc) ((949, .bipush 32, 2, 0, 0, (32), (0), [], 0)) ((948, .i2l, 1, 0, 0, (0), (0), [], 0))) (cond (Nat.ble 947 pc) ((947, .iaload, 1, 0, 0, (0), (0), [], 0)) ((946, .iadd, 1, 0, 0, (0), (0), [], 0)))) (cond (Nat.ble 944 pc) (cond (Nat.ble 945 pc) ((945, .iconst 2, 1, 0, 0, (2), (0), [], 0)) ((944, .iload_n 3, 1, 3, 0, (0), (0), [], 0))) (cond (Nat.ble 943 pc) ((943, .aload_n 0, 1, 0, 0, (0), (0), [], 0)) ((942, .iaload, 1, 0, 0, (0), (0), [], 0))))) (cond (Nat.ble 938 pc) (cond (Nat.ble 940 pc) (cond (Nat.ble 941 pc) ((941, .iadd, 1, 0, 0, (0), (0), [], 0)) ((940, .iconst 1, 1, 0, 0, (1), (0), [], 0))) (cond (Nat.ble 939 pc) ((939, .iload_n 3, 1, 3, 0, (0), (0), [], 0)) ((938, .aload_n 0, 1, 0, 0, (0), (0), [], 0)))) (cond (Nat.ble 934 pc) (cond (Nat.ble 937 pc) ((937, .aload_n 2, 1, 2, 0, (0), (0), [], 0)) ((934, .invokevirtual 99, 3, 104, 3, (0), (0), [], 971))) (cond (Nat.ble 933 pc) ((933, .lor, 1, 0, 0, (0), (0), [], 0)) ((932, .land, 1, 0, 0, (0), (0), [], 0))))))) (cond (Nat.ble 913 pc) (cond (Nat.ble 922 pc) (cond (Nat.ble 926 pc) (cond (Nat.ble 928 pc) (cond (Nat.ble 929 pc) ((929, .ldc2_w 97, 3, 0, 0, (0), (4294967295), [], 1554)) ((928, .i2l, 1, 0, 0, (0), (0), [], 0))) (cond (Nat.ble 927 pc) ((927, .iaload, 1, 0, 0, (0), (0), [], 0)) ((926, .iadd, 1, 0, 0, (0), (0), [], 0)))) (cond (Nat.ble 924 pc) (cond (Nat.ble 925 pc) ((925, .iconst 3, 1, 0, 0, (3), (0), [], 0)) ((924, .iload_n 3, 1, 3, 0, (0), (0), [], 0))) (cond (Nat.ble 923 pc) ((923, .aload_n 0, 1, 0, 0, (0), (0), [], 0)) ((922, .lshl, 1, 0, 0, (0), (0), [], 0))))) (cond (Nat.ble 917 pc) (cond (Nat.ble 919 pc) (cond (Nat.ble 920 pc) ((920, .bipush 32, 2, 0, 0, (32), (0), [], 0)) ((919, .i2l, 1, 0, 0, (0), (0), [], 0))) (cond (Nat.ble 918 pc) ((918, .iaload, 1, 0, 0, (0), (0), [], 0)) ((917, .iadd, 1, 0, 0, (0), (0), [], 0)))) (cond (Nat.ble 915 pc) (cond (Nat.ble 916 pc) ((916, .iconst 2, 1, 0, 0, (2), (0), [], 0)) ((915, .iload_n 3, 1, 3, 0, (0), (0), [], 0))) (cond (Nat.ble 914 pc) ((914, .aload_n 0, 1, 0, 0, (0), (0), [], 0)) ((913, .iaload, 1, 0, 0, (0), (0), [], 0)))))) (cond (Nat.ble 903 pc) (cond (Nat.ble 909 pc) (cond (Nat.ble 911 pc) (cond (Nat.ble 912 pc) ((912, .iadd, 1, 0, 0, (0), (0), [], 0)) ((911, .iconst 1, 1, 0, 0, (1), (0), [], 0))) (cond (Nat.ble 910 pc) ((910, .iload_n 3, 1, 3, 0, (0), (0), [], 0)) ((909, .aload_n 0, 1, 0, 0, (0), (0), [], 0)))) (cond (Nat.ble 907 pc) (cond (Nat.ble 908 pc) ((908, .aload_n 1, 1, 1, 0, (0), (0), [], 0)) ((907, .ireturn, 1, 1, 0, (0), (0), [], 0))) (cond (Nat.ble 906 pc) ((906, .iconst 0, 1, 0, 0, (0), (0), [], 0)) ((903, .if_icmp .eq 441, 3, 1344, 0, (0), (0), [], 0))))) (cond (Nat.ble 897 pc) (cond (Nat.ble 899 pc) (cond (Nat.ble 900 pc) ((900, .invokevirtual 96, 3, 149, 2, (0), (0), [], 1221)) ((899, .iaload, 1, 0, 0, (0), (0), [], 0))) (cond (Nat.ble 898 pc) ((898, .iadd, 1, 0, 0, (0), (0), [], 0)) ((897, .iconst 1, 1, 0, 0, (1), (0), [], 0)))) (cond (Nat.ble 895 pc) (cond (Nat.ble 896 pc) ((896, .iload_n 3, 1, 3, 0, (0), (0), [], 0)) ((895, .aload_n 0, 1, 0, 0, (0), (0), [], 0))) ((894, .aload_n 2, 1, 2, 0, (0), (0), [], 0)))))))) (cond (Nat.ble 813 pc) (cond (Nat.ble 850 pc) (cond (Nat.ble 872 pc) (cond (Nat.ble 884 pc) (cond (Nat.ble 888 pc) (cond (Nat.ble 890 pc) (cond (Nat.ble 891 pc) ((891, .invokevirtual 93, 3, 98, 2, (0), (0), [], 909)) ((890, .iaload, 1, 0, 0, (0), (0), [], 0))) (cond (Nat.ble 889 pc) ((889, .iadd, 1, 0, 0, (0), (0), [], 0)) ((888, .iconst 1, 1, 0, 0, (1), (0), [], 0)))) (cond (Nat.ble 886 pc) (cond (Nat.ble 887 pc) ((887, .iload_n 3, 1, 3, 0, (0), (0), [], 0)) ((886, .aload_n 0, 1, 0, 0, (0), (0), [], 0))) (cond (Nat.ble 885 pc) ((885, .aload_n 1, 1, 1, 0, (0), (0), [], 0)) ((884, .ireturn, 1, 1, 0, (0), (0), [], 0))))) (cond (Nat.ble 876 pc) (cond (Nat.ble 880 pc) (cond (Nat.ble 883 pc) ((883, .iconst 0, 1, 0, 0, (0), (0), [], 0)) ((880, .if_icmp .eq 464, 3, 1344, 0, (0), (0), [], 0))) (cond (Nat.ble 877 pc) ((877, .invokevirtual 92, 3, 148, 2, (0), (0), [], 1217)) ((876, .iaload, 1, 0, 0, (0), (0), [], 0)))) (cond (Nat.ble 874 pc) (cond (Nat.ble 875 pc) ((875, .iadd, 1, 0, 0, (0), (0), [], 0)) ((874, .iconst 1, 1, 0, 0, (1), (0), [], 0))) (cond (Nat.ble 873 pc) ((873, .iload_n 3, 1, 3, 0, (0), (0), [], 0)) ((872, .aload_n 0, 1, 0, 0, (0), (0), [], 0)))))) (cond (Nat.ble 862 pc) (cond (Nat.ble 866 pc) (cond (Nat.ble 868 pc) (cond (Nat.ble 871 pc) ((871, .aload_n 2, 1, 2, 0, (0), (0), [], 0)) ((868, .invokevirtual 89, 3, 97, 2, (0), (0), [], 905))) (cond (Nat.ble 867 pc) ((867, .iaload, 1, 0, 0, (0), (0), [], 0)) ((866, .iadd, 1, 0, 0, (0), (0), [], 0)))) (cond (Nat.ble 864 pc) (cond (Nat.ble 865 pc) ((865, .iconst 1, 1, 0, 0, (1), (0), [], 0)) ((864, .iload_n 3, 1, 3, 0, (0), (0), [], 0))) (cond (Nat.ble 863 pc) ((863, .aload_n 0, 1, 0, 0, (0), (0), [], 0)) ((862, .aload_n 1, 1, 1, 0, (0), (0), [], 0))))) (cond (Nat.ble 854 pc) (cond (Nat.ble 860 pc) (cond (Nat.ble 861 pc) ((861, .ireturn, 1, 1, 0, (0), (0), [], 0)) ((860, .iconst 0, 1, 0, 0, (0), (0), [], 0))) (cond (Nat.ble 857 pc) ((857, .if_icmp .eq 487, 3, 1344, 0, (0), (0), [], 0)) ((854, .invokevirtual 88, 3, 147, 3, (0), (0), [], 1213)))) (cond (Nat.ble 852 pc) (cond (Nat.ble 853 pc) ((853, .iaload, 1, 0, 0, (0), (0), [], 0)) ((852, .iadd, 1, 0, 0, (0), (0), [], 0))) (cond (Nat.ble 851 pc) ((851, .iconst 2, 1, 0, 0, (2), (0), [], 0)) ((850, .iload_n 3, 1, 3, 0, (0), (0), [], 0))))))) (cond (Nat.ble 832 pc) (cond (Nat.ble 840 pc) (cond (Nat.ble 846 pc) (cond (Nat.ble 848 pc) (cond (Nat.ble 849 pc) ((849, .aload_n 0, 1, 0, 0, (0), (0), [], 0)) ((848, .iaload, 1, 0, 0, (0), (0), [], 0))) (cond (Nat.ble 847 pc) ((847, .iadd, 1, 0, 0, (0), (0), [], 0)) ((846, .iconst 1, 1, 0, 0, (1), (0), [], 0)))) (cond (Nat.ble 844 pc) (cond (Nat.ble 845 pc) ((845, .iload_n 3, 1, 3, 0, (0), (0), [], 0)) ((844, .aload_n 0, 1, 0, 0, (0), (0), [], 0))) (cond (Nat.ble 843 pc) ((843, .aload_n 2, 1, 2, 0, (0), (0), [], 0)) ((840, .invokevirtual 85, 3, 96, 3, (0), (0), [], 897))))) (cond (Nat.ble 836 pc) (cond (Nat.ble 838 pc) (cond (Nat.ble 839 pc) ((839, .iaload, 1, 0, 0, (0), (0), [], 0)) ((838, .iadd, 1, 0, 0, (0), (0), [], 0))) (cond (Nat.ble 837 pc) ((837, .iconst 2, 1, 0, 0, (2), (0), [], 0)) ((836, .iload_n 3, 1, 3, 0, (0), (0), [], 0)))) (cond (Nat.ble 834 pc) (cond (Nat.ble 835 pc) ((835, .aload_n 0, 1, 0, 0, (0), (0), [], 0)) ((834, .iaload, 1, 0, 0, (0), (0), [], 0))) (cond (Nat.ble 833 pc) ((833, .iadd, 1, 0, 0, (0), (0), [], 0)) ((832, .iconst 1, 1, 0, 0, (1), (0), [], 0)))))) (cond (Nat.ble 820 pc) (cond (Nat.ble 828 pc) (cond (Nat.ble 830 pc) (cond (Nat.ble 831 pc) ((831, .iload_n 3, 1, 3, 0, (0), (0), [], 0)) ((830, .aload_n 0, 1, 0, 0, (0), (0), [], 0))) (cond (Nat.ble 829 pc) ((829, .aload_n 1, 1, 1, 0, (0), (0), [], 0)) ((828, .ireturn, 1, 1, 0, (0), (0), [], 0)))) (cond (Nat.ble 824 pc) (cond (Nat.ble 827 pc) ((827, .iconst 0, 1, 0, 0, (0), (0), [], 0)) ((824, .if_icmp .eq 520, 3, 1344, 0, (0), (0), [], 0))) (cond (Nat.ble 821 pc) ((821, .invokevirtual 84, 3, 145, 3, (0), (0), [], 1205)) ((820, .iaload, 1, 0, 0, (0), (0), [], 0))))) (cond (Nat.ble 816 pc) (cond (Nat.ble 818 pc) (cond (Nat.ble 819 pc) ((819, .iadd, 1, 0, 0, (0), (0), [], 0)) ((818, .iconst 2, 1, 0, 0, (2), (0), [], 0))) (cond (Nat.ble 817 pc) ((817, .iload_n 3, 1, 3, 0, (0), (0), [], 0)) ((816, .aload_n 0, 1, 0, 0, (0), (0), [], 0)))) (cond (Nat.ble 814 pc) (cond (Nat.ble 815 pc) ((815, .iaload, 1, 0, 0, (0), (0), [], 0)) ((814, .iadd, 1, 0, 0, (0), (0), [], 0))) ((813, .iconst 1, 1, 0, 0, (1), (0), [], 0))))))) (cond (Nat.ble 775 pc) (cond (Nat.ble 795 pc) (cond (Nat.ble 803 pc) (cond (Nat.ble 807 pc) (cond (Nat.ble 811 pc) (cond (Nat.ble 812 pc) ((812, .iload_n 3, 1, 3, 0, (0), (0), [], 0)) ((811, .aload_n 0, 1, 0, 0, (0), (0), [], 0))) (cond (Nat.ble 810 pc) ((810, .aload_n 2, 1, 2, 0, (0), (0), [], 0)) ((807, .invokevirtual 81, 3, 94, 3, (0), (0), [], 889)))) (cond (Nat.ble 805 pc) (cond (Nat.ble 806 pc) ((806, .iaload, 1, 0, 0, (0), (0), [], 0)) ((805, .iadd, 1, 0, 0, (0), (0), [], 0))) (cond (Nat.ble 804 pc) ((804, .iconst 2, 1, 0, 0, (2), (0), [], 0)) ((803, .iload_n 3, 1, 3, 0, (0), (0), [], 0))))) (cond (Nat.ble 799 pc) (cond (Nat.ble 801 pc) (cond (Nat.ble 802 pc) ((802, .aload_n 0, 1, 0, 0, (0), (0), [], 0)) ((801, .iaload, 1, 0, 0, (0), (0), [], 0))) (cond (Nat.ble 800 pc) ((800, .iadd, 1, 0, 0, (0), (0), [], 0)) ((799, .iconst 1, 1, 0, 0, (1), (0), [], 0)))) (cond (Nat.ble 797 pc) (cond (Nat.ble 798 pc) ((798, .iload_n 3, 1, 3, 0, (0), (0), [], 0)) ((797, .aload_n 0, 1, 0, 0, (0), (0), [], 0))) (cond (Nat.ble 796 pc) ((796, .aload_n 1, 1, 1, 0, (0), (0), [], 0)) ((795, .ireturn, 1, 1, 0, (0), (0), [], 0)))))) (cond (Nat.ble 783 pc) (cond (Nat.ble 787 pc) (cond (Nat.ble 791 pc) (cond (Nat.ble 794 pc) ((794, .iconst 0, 1, 0, 0, (0), (0), [], 0)) ((791, .if_icmp .eq 553, 3, 1344, 0, (0), (0), [], 0))) (cond (Nat.ble 788 pc) ((788, .invokevirtual 80, 3, 144, 5, (0), (0), [], 1200)) ((787, .iaload, 1, 0, 0, (0), (0), [], 0)))) (cond (Nat.ble 785 pc) (cond (Nat.ble 786 pc) ((786, .iadd, 1, 0, 0, (0), (0), [], 0)) ((785, .iconst 4, 1, 0, 0, (4), (0), [], 0))) (cond (Nat.ble 784 pc) ((784, .iload_n 3, 1, 3, 0, (0), (0), [], 0)) ((783, .aload_n 0, 1, 0, 0, (0), (0), [], 0))))) (cond (Nat.ble 779 pc) (cond (Nat.ble 781 pc) (cond (Nat.ble 782 pc) ((782, .iaload, 1, 0, 0, (0), (0), [], 0)) ((781, .iadd, 1, 0, 0, (0), (0), [], 0))) (cond (Nat.ble 780 pc) ((780, .iconst 3, 1, 0, 0, (3), (0), [], 0)) ((779, .iload_n 3, 1, 3, 0, (0), (0), [], 0)))) (cond (Nat.ble 777 pc) (cond (Nat.ble 778 pc) ((778, .aload_n 0, 1, 0, 0, (0), (0), [], 0)) ((777, .iaload, 1, 0, 0, (0), (0), [], 0))) (cond (Nat.ble 776 pc) ((776, .iadd, 1, 0, 0, (0), (0), [], 0)) ((775, .iconst 2, 1, 0, 0, (2), (0), [], 0))))))) (cond (Nat.ble 757 pc) (cond (Nat.ble 767 pc) (cond (Nat.ble 771 pc) (cond (Nat.ble 773 pc) (cond (Nat.ble 774 pc) ((774, .iload_n 3, 1, 3, 0, (0), (0), [], 0)) ((773, .aload_n 0, 1, 0, 0, (0), (0), [], 0))) (cond (Nat.ble 772 pc) ((772, .iaload, 1, 0, 0, (0), (0), [], 0)) ((771, .iadd, 1, 0, 0, (0), (0), [], 0)))) (cond (Nat.ble 769 pc) (cond (Nat.ble 770 pc) ((770, .iconst 1, 1, 0, 0, (1), (0), [], 0)) ((769, .iload_n 3, 1, 3, 0, (0), (0), [], 0))) (cond (Nat.ble 768 pc) ((768, .aload_n 0, 1, 0, 0, (0), (0), [], 0)) ((767, .aload_n 2, 1, 2, 0, (0), (0), [], 0))))) (cond (Nat.ble 761 pc) (cond (Nat.ble 763 pc) (cond (Nat.ble 764 pc) ((764, .invokevirtual 77, 3, 93, 5, (0), (0), [], 873)) ((763, .iaload, 1, 0, 0, (0), (0), [], 0))) (cond (Nat.ble 762 pc) ((762, .iadd, 1, 0, 0, (0), (0), [], 0)) ((761, .iconst 4, 1, 0, 0, (4), (0), [], 0)))) (cond (Nat.ble 759 pc) (cond (Nat.ble 760 pc) ((760, .iload_n 3, 1, 3, 0, (0), (0), [], 0)) ((759, .aload_n 0, 1, 0, 0, (0), (0), [], 0))) (cond (Nat.ble 758 pc) ((758, .iaload, 1, 0, 0, (0), (0), [], 0)) ((757, .iadd, 1, 0, 0, (0), (0), [], 0)))))) (cond (Nat.ble 749 pc) (cond (Nat.ble 753 pc) (cond (Nat.ble 755 pc) (cond (Nat.ble 756 pc) ((756, .iconst 3, 1, 0, 0, (3), (0), [], 0)) ((755, .iload_n 3, 1, 3, 0, (0), (0), [], 0))) (cond (Nat.ble 754 pc) ((754, .aload_n 0, 1, 0, 0, (0), (0), [], 0)) ((753, .iaload, 1, 0, 0, (0), (0), [], 0)))) (cond (Nat.ble 751 pc) (cond (Nat.ble 752 pc) ((752, .iadd, 1, 0, 0, (0), (0), [], 0)) ((751, .iconst 2, 1, 0, 0, (2), (0), [], 0))) (cond (Nat.ble 750 pc) ((750, .iload_n 3, 1, 3, 0, (0), (0), [], 0)) ((749, .aload_n 0, 1, 0, 0, (0), (0), [], 0))))) (cond (Nat.ble 745 pc) (cond (Nat.ble 747 pc) (cond (Nat.ble 748 pc) ((748, .iaload, 1, 0, 0, (0), (0), [], 0)) ((747, .iadd, 1, 0, 0, (0), (0), [], 0))) (cond (Nat.ble 746 pc) ((746, .iconst 1, 1, 0, 0, (1), (0), [], 0)) ((745, .iload_n 3, 1, 3, 0, (0), (0), [], 0)))) (cond (Nat.ble 743 pc) (cond (Nat.ble 744 pc) ((744, .aload_n 0, 1, 0, 0, (0), (0), [], 0)) ((743, .aload_n 1, 1, 1, 0, (0), (0), [], 0))) ((742, .ireturn, 1, 1, 0, (0), (0), [], 0)))))))))) (cond (Nat.ble 437 pc) (cond (Nat.ble 587 pc) (cond (Nat.ble 666 pc) (cond (Nat.ble 704 pc) (cond (Nat.ble 722 pc) (cond (Nat.ble 730 pc) (cond (Nat.ble 734 pc) (cond (Nat.ble 738 pc) (cond (Nat.ble 741 pc) ((741, .iconst 0, 1, 0, 0, (0), (0), [], 0)) ((738, .if_icmp .eq 606, 3, 1344, 0, (0), (0), [], 0))) (cond (Nat.ble 735 pc) ((735, .invokevirtual 76, 3, 143, 5, (0), (0), [], 1195)) ((734, .iaload, 1, 0, 0, (0), (0), [], 0)))) (cond (Nat.ble 732 pc) (cond (Nat.ble 733 pc) ((733, .iadd, 1, 0, 0, (0), (0), [], 0)) ((732, .iconst 4, 1, 0, 0, (4), (0), [], 0))) (cond (Nat.ble 731 pc) ((731, .iload_n 3, 1, 3, 0, (0), (0), [], 0)) ((730, .aload_n 0, 1, 0, 0, (0), (0), [], 0))))) (cond (Nat.ble 726 pc) (cond (Nat.ble 728 pc) (cond (Nat.ble 729 pc) ((729, .iaload, 1, 0, 0, (0), (0), [], 0)) ((728, .iadd, 1, 0, 0, (0), (0), [], 0))) (cond (Nat.ble 727 pc) ((727, .iconst 3, 1, 0, 0, (3), (0), [], 0)) ((726, .iload_n 3, 1, 3, 0, (0), (0), [], 0)))) (cond (Nat.ble 724 pc) (cond (Nat.ble 725 pc) ((725, .aload_n 0, 1, 0, 0, (0), (0), [], 0)) ((724, .iaload, 1, 0, 0, (0), (0), [], 0))) (cond (Nat.ble 723 pc) ((723, .iadd, 1, 0, 0, (0), (0), [], 0)) ((722, .iconst 2, 1, 0, 0, (2), (0), [], 0)))))) (cond (Nat.ble 714 pc) (cond (Nat.ble 718 pc) (cond (Nat.ble 720 pc) (cond (Nat.ble 721 pc) ((721, .iload_n 3, 1, 3, 0, (0), (0), [], 0)) ((720, .aload_n 0, 1, 0, 0, (0), (0), [], 0))) (cond (Nat.ble 719 pc) ((719, .iaload, 1, 0, 0, (0), (0), [], 0)) ((718, .iadd, 1, 0, 0, (0), (0), [], 0)))) (cond (Nat.ble 716 pc) (cond (Nat.ble 717 pc) ((717, .iconst 1, 1, 0, 0, (1), (0), [], 0)) ((716, .iload_n 3, 1, 3, 0, (0), (0), [], 0))) (cond (Nat.ble 715 pc) ((715, .aload_n 0, 1, 0, 0, (0), (0), [], 0)) ((714, .aload_n 2, 1, 2, 0, (0), (0), [], 0))))) (cond (Nat.ble 708 pc) (cond (Nat.ble 710 pc) (cond (Nat.ble 711 pc) ((711, .invokevirtual 73, 3, 92, 5, (0), (0), [], 861)) ((710, .iaload, 1, 0, 0, (0), (0), [], 0))) (cond (Nat.ble 709 pc) ((709, .iadd, 1, 0, 0, (0), (0), [], 0)) ((708, .iconst 4, 1, 0, 0, (4), (0), [], 0)))) (cond (Nat.ble 706 pc) (cond (Nat.ble 707 pc) ((707, .iload_n 3, 1, 3, 0, (0), (0), [], 0)) ((706, .aload_n 0, 1, 0, 0, (0), (0), [], 0))) (cond (Nat.ble 705 pc) ((705, .iaload, 1, 0, 0, (0), (0), [], 0)) ((704, .iadd, 1, 0, 0, (0), (0), [], 0))))))) (cond (Nat.ble 688 pc) (cond (Nat.ble 696 pc) (cond (Nat.ble 700 pc) (cond (Nat.ble 702 pc) (cond (Nat.ble 703 pc) ((703, .iconst 3, 1, 0, 0, (3), (0), [], 0)) ((702, .iload_n 3, 1, 3, 0, (0), (0), [], 0))) (cond (Nat.ble 701 pc) ((701, .aload_n 0, 1, 0, 0, (0), (0), [], 0)) ((700, .iaload, 1, 0, 0, (0), (0), [], 0)))) (cond (Nat.ble 698 pc) (cond (Nat.ble 699 pc) ((699, .iadd, 1, 0, 0, (0), (0), [], 0)) ((698, .iconst 2, 1, 0, 0, (2), (0), [], 0))) (cond (Nat.ble 697 pc) ((697, .iload_n 3, 1, 3, 0, (0), (0), [], 0)) ((696, .aload_n 0, 1, 0, 0, (0), (0), [], 0))))) (cond (Nat.ble 692 pc) (cond (Nat.ble 694 pc) (cond (Nat.ble 695 pc) ((695, .iaload, 1, 0, 0, (0), (0), [], 0)) ((694, .iadd, 1, 0, 0, (0), (0), [], 0))) (cond (Nat.ble 693 pc) ((693, .iconst 1, 1, 0, 0, (1), (0), [], 0)) ((692, .iload_n 3, 1, 3, 0, (0), (0), [], 0)))) (cond (Nat.ble 690 pc) (cond (Nat.ble 691 pc) ((691, .aload_n 0, 1, 0, 0, (0), (0), [], 0)) ((690, .aload_n 1, 1, 1, 0, (0), (0), [], 0))) (cond (Nat.ble 689 pc) ((689, .ireturn, 1, 1, 0, (0), (0), [], 0)) ((688, .iconst 0, 1, 0, 0, (0), (0), [], 0)))))) (cond (Nat.ble 676 pc) (cond (Nat.ble 680 pc) (cond (Nat.ble 682 pc) (cond (Nat.ble 685 pc) ((685, .if_icmp .eq 659, 3, 1344, 0, (0), (0), [], 0)) ((682, .invokevirtual 72, 3, 142, 2, (0), (0), [], 1191))) (cond (Nat.ble 681 pc) ((681, .iaload, 1, 0, 0, (0), (0), [], 0)) ((680, .iadd, 1, 0, 0, (0), (0), [], 0)))) (cond (Nat.ble 678 pc) (cond (Nat.ble 679 pc) ((679, .iconst 1, 1, 0, 0, (1), (0), [], 0)) ((678, .iload_n 3, 1, 3, 0, (0), (0), [], 0))) (cond (Nat.ble 677 pc) ((677, .aload_n 0, 1, 0, 0, (0), (0), [], 0)) ((676, .aload_n 2, 1, 2, 0, (0), (0), [], 0))))) (cond (Nat.ble 670 pc) (cond (Nat.ble 672 pc) (cond (Nat.ble 673 pc) ((673, .invokevirtual 69, 3, 91, 2, (0), (0), [], 844)) ((672, .iaload, 1, 0, 0, (0), (0), [], 0))) (cond (Nat.ble 671 pc) ((671, .iadd, 1, 0, 0, (0), (0), [], 0)) ((670, .iconst 1, 1, 0, 0, (1), (0), [], 0)))) (cond (Nat.ble 668 pc) (cond (Nat.ble 669 pc) ((669, .iload_n 3, 1, 3, 0, (0), (0), [], 0)) ((668, .aload_n 0, 1, 0, 0, (0), (0), [], 0))) (cond (Nat.ble 667 pc) ((667, .aload_n 1, 1, 1, 0, (0), (0), [], 0)) ((666, .ireturn, 1, 1, 0, (0), (0), [], 0)))))))) (cond (Nat.ble 622 pc) (cond (Nat.ble 644 pc) (cond (Nat.ble 654 pc) (cond (Nat.ble 658 pc) (cond (Nat.ble 662 pc) (cond (Nat.ble 665 pc) ((665, .iconst 0, 1, 0, 0, (0), (0), [], 0)) ((662, .if_icmp .eq 682, 3, 1344, 0, (0), (0), [], 0))) (cond (Nat.ble 659 pc) ((659, .invokevirtual 68, 3, 141, 2, (0), (0), [], 1186)) ((658, .iaload, 1, 0, 0, (0), (0), [], 0)))) (cond (Nat.ble 656 pc) (cond (Nat.ble 657 pc) ((657, .iadd, 1, 0, 0, (0), (0), [], 0)) ((656, .iconst 1, 1, 0, 0, (1), (0), [], 0))) (cond (Nat.ble 655 pc) ((655, .iload_n 3, 1, 3, 0, (0), (0), [], 0)) ((654, .aload_n 0, 1, 0, 0, (0), (0), [], 0))))) (cond (Nat.ble 648 pc) (cond (Nat.ble 650 pc) (cond (Nat.ble 653 pc) ((653, .aload_n 2, 1, 2, 0, (0), (0), [], 0)) ((650, .invokevirtual 64, 3, 89, 2, (0), (0), [], 832))) (cond (Nat.ble 649 pc) ((649, .iaload, 1, 0, 0, (0), (0), [], 0)) ((648, .iadd, 1, 0, 0, (0), (0), [], 0)))) (cond (Nat.ble 646 pc) (cond (Nat.ble 647 pc) ((647, .iconst 1, 1, 0, 0, (1), (0), [], 0)) ((646, .iload_n 3, 1, 3, 0, (0), (0), [], 0))) (cond (Nat.ble 645 pc) ((645, .aload_n 0, 1, 0, 0, (0), (0), [], 0)) ((644, .aload_n 1, 1, 1, 0, (0), (0), [], 0)))))) (cond (Nat.ble 632 pc) (cond (Nat.ble 636 pc) (cond (Nat.ble 642 pc) (cond (Nat.ble 643 pc) ((643, .ireturn, 1, 1, 0, (0), (0), [], 0)) ((642, .iconst 0, 1, 0, 0, (0), (0), [], 0))) (cond (Nat.ble 639 pc) ((639, .if_icmp .eq 705, 3, 1344, 0, (0), (0), [], 0)) ((636, .invokevirtual 63, 3, 137, 3, (0), (0), [], 1170)))) (cond (Nat.ble 634 pc) (cond (Nat.ble 635 pc) ((635, .iaload, 1, 0, 0, (0), (0), [], 0)) ((634, .iadd, 1, 0, 0, (0), (0), [], 0))) (cond (Nat.ble 633 pc) ((633, .iconst 2, 1, 0, 0, (2), (0), [], 0)) ((632, .iload_n 3, 1, 3, 0, (0), (0), [], 0))))) (cond (Nat.ble 628 pc) (cond (Nat.ble 630 pc) (cond (Nat.ble 631 pc) ((631, .aload_n 0, 1, 0, 0, (0), (0), [], 0)) ((630, .iaload, 1, 0, 0, (0), (0), [], 0))) (cond (Nat.ble 629 pc) ((629, .iadd, 1, 0, 0, (0), (0), [], 0)) ((628, .iconst 1, 1, 0, 0, (1), (0), [], 0)))) (cond (Nat.ble 626 pc) (cond (Nat.ble 627 pc) ((627, .iload_n 3, 1, 3, 0, (0), (0), [], 0)) ((626, .aload_n 0, 1, 0, 0, (0), (0), [], 0))) (cond (Nat.ble 625 pc) ((625, .aload_n 2, 1, 2, 0, (0), (0), [], 0)) ((622, .invokevirtual 60, 3, 87, 3, (0), (0), [], 810))))))) (cond (Nat.ble 602 pc) (cond (Nat.ble 614 pc) (cond (Nat.ble 618 pc) (cond (Nat.ble 620 pc) (cond (Nat.ble 621 pc) ((621, .iaload, 1, 0, 0, (0), (0), [], 0)) ((620, .iadd, 1, 0, 0, (0), (0), [], 0))) (cond (Nat.ble 619 pc) ((619, .iconst 2, 1, 0, 0, (2), (0), [], 0)) ((618, .iload_n 3, 1, 3, 0, (0), (0), [], 0)))) (cond (Nat.ble 616 pc) (cond (Nat.ble 617 pc) ((617, .aload_n 0, 1, 0, 0, (0), (0), [], 0)) ((616, .iaload, 1, 0, 0, (0), (0), [], 0))) (cond (Nat.ble 615 pc) ((615, .iadd, 1, 0, 0, (0), (0), [], 0)) ((614, .iconst 1, 1, 0, 0, (1), (0), [], 0))))) (cond (Nat.ble 610 pc) (cond (Nat.ble 612 pc) (cond (Nat.ble 613 pc) ((613, .iload_n 3, 1, 3, 0, (0), (0), [], 0)) ((612, .aload_n 0, 1, 0, 0, (0), (0), [], 0))) (cond (Nat.ble 611 pc) ((611, .aload_n 1, 1, 1, 0, (0), (0), [], 0)) ((610, .ireturn, 1, 1, 0, (0), (0), [], 0)))) (cond (Nat.ble 606 pc) (cond (Nat.ble 609 pc) ((609, .iconst 0, 1, 0, 0, (0), (0), [], 0)) ((606, .if_icmp .eq 738, 3, 1344, 0, (0), (0), [], 0))) (cond (Nat.ble 603 pc) ((603, .invokevirtual 59, 3, 136, 4, (0), (0), [], 1166)) ((602, .iaload, 1, 0, 0, (0), (0), [], 0)))))) (cond (Nat.ble 594 pc) (cond (Nat.ble 598 pc) (cond (Nat.ble 600 pc) (cond (Nat.ble 601 pc) ((601, .iadd, 1, 0, 0, (0), (0), [], 0)) ((600, .iconst 3, 1, 0, 0, (3), (0), [], 0))) (cond (Nat.ble 599 pc) ((599, .iload_n 3, 1, 3, 0, (0), (0), [], 0)) ((598, .aload_n 0, 1, 0, 0, (0), (0), [], 0)))) (cond (Nat.ble 596 pc) (cond (Nat.ble 597 pc) ((597, .iaload, 1, 0, 0, (0), (0), [], 0)) ((596, .iadd, 1, 0, 0, (0), (0), [], 0))) (cond (Nat.ble 595 pc) ((595, .iconst 2, 1, 0, 0, (2), (0), [], 0)) ((594, .iload_n 3, 1, 3, 0, (0), (0), [], 0))))) (cond (Nat.ble 590 pc) (cond (Nat.ble 592 pc) (cond (Nat.ble 593 pc) ((593, .aload_n 0, 1, 0, 0, (0), (0), [], 0)) ((592, .iaload, 1, 0, 0, (0), (0), [], 0))) (cond (Nat.ble 591 pc) ((591, .iadd, 1, 0, 0, (0), (0), [], 0)) ((590, .iconst 1, 1, 0, 0, (1), (0), [], 0)))) (cond (Nat.ble 588 pc) (cond (Nat.ble 589 pc) ((589, .iload_n 3, 1, 3, 0, (0), (0), [], 0)) ((588, .aload_n 0, 1, 0, 0, (0), (0), [], 0))) ((587, .aload_n 2, 1, 2, 0, (0), (0), [], 0)))))))) (cond (Nat.ble 512 pc) (cond (Nat.ble 549 pc) (cond (Nat.ble 569 pc) (cond (Nat.ble 577 pc) (cond (Nat.ble 581 pc) (cond (Nat.ble 583 pc) (cond (Nat.ble 584 pc) ((584, .invokevirtual 56, 3, 86, 4, (0), (0), [], 806)) ((583, .iaload, 1, 0, 0, (0), (0), [], 0))) (cond (Nat.ble 582 pc) ((582, .iadd, 1, 0, 0, (0), (0), [], 0)) ((581, .iconst 3, 1, 0, 0, (3), (0), [], 0)))) (cond (Nat.ble 579 pc) (cond (Nat.ble 580 pc) ((580, .iload_n 3, 1, 3, 0, (0), (0), [], 0)) ((579, .aload_n 0, 1, 0, 0, (0), (0), [], 0))) (cond (Nat.ble 578 pc) ((578, .iaload, 1, 0, 0, (0), (0), [], 0)) ((577, .iadd, 1, 0, 0, (0), (0), [], 0))))) (cond (Nat.ble 573 pc) (cond (Nat.ble 575 pc) (cond (Nat.ble 576 pc) ((576, .iconst 2, 1, 0, 0, (2), (0), [], 0)) ((575, .iload_n 3, 1, 3, 0, (0), (0), [], 0))) (cond (Nat.ble 574 pc) ((574, .aload_n 0, 1, 0, 0, (0), (0), [], 0)) ((573, .iaload, 1, 0, 0, (0), (0), [], 0)))) (cond (Nat.ble 571 pc) (cond (Nat.ble 572 pc) ((572, .iadd, 1, 0, 0, (0), (0), [], 0)) ((571, .iconst 1, 1, 0, 0, (1), (0), [], 0))) (cond (Nat.ble 570 pc) ((570, .iload_n 3, 1, 3, 0, (0), (0), [], 0)) ((569, .aload_n 0, 1, 0, 0, (0), (0), [], 0)))))) (cond (Nat.ble 557 pc) (cond (Nat.ble 563 pc) (cond (Nat.ble 567 pc) (cond (Nat.ble 568 pc) ((568, .aload_n 1, 1, 1, 0, (0), (0), [], 0)) ((567, .ireturn, 1, 1, 0, (0), (0), [], 0))) (cond (Nat.ble 566 pc) ((566, .iconst 0, 1, 0, 0, (0), (0), [], 0)) ((563, .if_icmp .eq 781, 3, 1344, 0, (0), (0), [], 0)))) (cond (Nat.ble 559 pc) (cond (Nat.ble 560 pc) ((560, .invokevirtual 55, 3, 134, 4, (0), (0), [], 1158)) ((559, .iaload, 1, 0, 0, (0), (0), [], 0))) (cond (Nat.ble 558 pc) ((558, .iadd, 1, 0, 0, (0), (0), [], 0)) ((557, .iconst 3, 1, 0, 0, (3), (0), [], 0))))) (cond (Nat.ble 553 pc) (cond (Nat.ble 555 pc) (cond (Nat.ble 556 pc) ((556, .iload_n 3, 1, 3, 0, (0), (0), [], 0)) ((555, .aload_n 0, 1, 0, 0, (0), (0), [], 0))) (cond (Nat.ble 554 pc) ((554, .iaload, 1, 0, 0, (0), (0), [], 0)) ((553, .iadd, 1, 0, 0, (0), (0), [], 0)))) (cond (Nat.ble 551 pc) (cond (Nat.ble 552 pc) ((552, .iconst 2, 1, 0, 0, (2), (0), [], 0)) ((551, .iload_n 3, 1, 3, 0, (0), (0), [], 0))) (cond (Nat.ble 550 pc) ((550, .aload_n 0, 1, 0, 0, (0), (0), [], 0)) ((549, .iaload, 1, 0, 0, (0), (0), [], 0))))))) (cond (Nat.ble 531 pc) (cond (Nat.ble 539 pc) (cond (Nat.ble 545 pc) (cond (Nat.ble 547 pc) (cond (Nat.ble 548 pc) ((548, .iadd, 1, 0, 0, (0), (0), [], 0)) ((547, .iconst 1, 1, 0, 0, (1), (0), [], 0))) (cond (Nat.ble 546 pc) ((546, .iload_n 3, 1, 3, 0, (0), (0), [], 0)) ((545, .aload_n 0, 1, 0, 0, (0), (0), [], 0)))) (cond (Nat.ble 541 pc) (cond (Nat.ble 544 pc) ((544, .aload_n 2, 1, 2, 0, (0), (0), [], 0)) ((541, .invokevirtual 52, 3, 85, 4, (0), (0), [], 798))) (cond (Nat.ble 540 pc) ((540, .iaload, 1, 0, 0, (0), (0), [], 0)) ((539, .iadd, 1, 0, 0, (0), (0), [], 0))))) (cond (Nat.ble 535 pc) (cond (Nat.ble 537 pc) (cond (Nat.ble 538 pc) ((538, .iconst 3, 1, 0, 0, (3), (0), [], 0)) ((537, .iload_n 3, 1, 3, 0, (0), (0), [], 0))) (cond (Nat.ble 536 pc) ((536, .aload_n 0, 1, 0, 0, (0), (0), [], 0)) ((535, .iaload, 1, 0, 0, (0), (0), [], 0)))) (cond (Nat.ble 533 pc) (cond (Nat.ble 534 pc) ((534, .iadd, 1, 0, 0, (0), (0), [], 0)) ((533, .iconst 2, 1, 0, 0, (2), (0), [], 0))) (cond (Nat.ble 532 pc) ((532, .iload_n 3, 1, 3, 0, (0), (0), [], 0)) ((531, .aload_n 0, 1, 0, 0, (0), (0), [], 0)))))) (cond (Nat.ble 523 pc) (cond (Nat.ble 527 pc) (cond (Nat.ble 529 pc) (cond (Nat.ble 530 pc) ((530, .iaload, 1, 0, 0, (0), (0), [], 0)) ((529, .iadd, 1, 0, 0, (0), (0), [], 0))) (cond (Nat.ble 528 pc) ((528, .iconst 1, 1, 0, 0, (1), (0), [], 0)) ((527, .iload_n 3, 1, 3, 0, (0), (0), [], 0)))) (cond (Nat.ble 525 pc) (cond (Nat.ble 526 pc) ((526, .aload_n 0, 1, 0, 0, (0), (0), [], 0)) ((525, .aload_n 1, 1, 1, 0, (0), (0), [], 0))) (cond (Nat.ble 524 pc) ((524, .ireturn, 1, 1, 0, (0), (0), [], 0)) ((523, .iconst 0, 1, 0, 0, (0), (0), [], 0))))) (cond (Nat.ble 515 pc) (cond (Nat.ble 517 pc) (cond (Nat.ble 520 pc) ((520, .if_icmp .eq 824, 3, 1344, 0, (0), (0), [], 0)) ((517, .invokevirtual 51, 3, 133, 3, (0), (0), [], 1154))) (cond (Nat.ble 516 pc) ((516, .iaload, 1, 0, 0, (0), (0), [], 0)) ((515, .iadd, 1, 0, 0, (0), (0), [], 0)))) (cond (Nat.ble 513 pc) (cond (Nat.ble 514 pc) ((514, .iconst 2, 1, 0, 0, (2), (0), [], 0)) ((513, .iload_n 3, 1, 3, 0, (0), (0), [], 0))) ((512, .aload_n 0, 1, 0, 0, (0), (0), [], 0))))))) (cond (Nat.ble 474 pc) (cond (Nat.ble 494 pc) (cond (Nat.ble 502 pc) (cond (Nat.ble 508 pc) (cond (Nat.ble 510 pc) (cond (Nat.ble 511 pc) ((511, .iaload, 1, 0, 0, (0), (0), [], 0)) ((510, .iadd, 1, 0, 0, (0), (0), [], 0))) (cond (Nat.ble 509 pc) ((509, .iconst 1, 1, 0, 0, (1), (0), [], 0)) ((508, .iload_n 3, 1, 3, 0, (0), (0), [], 0)))) (cond (Nat.ble 506 pc) (cond (Nat.ble 507 pc) ((507, .aload_n 0, 1, 0, 0, (0), (0), [], 0)) ((506, .aload_n 2, 1, 2, 0, (0), (0), [], 0))) (cond (Nat.ble 503 pc) ((503, .invokevirtual 48, 3, 84, 3, (0), (0), [], 794)) ((502, .iaload, 1, 0, 0, (0), (0), [], 0))))) (cond (Nat.ble 498 pc) (cond (Nat.ble 500 pc) (cond (Nat.ble 501 pc) ((501, .iadd, 1, 0, 0, (0), (0), [], 0)) ((500, .iconst 2, 1, 0, 0, (2), (0), [], 0))) (cond (Nat.ble 499 pc) ((499, .iload_n 3, 1, 3, 0, (0), (0), [], 0)) ((498, .aload_n 0, 1, 0, 0, (0), (0), [], 0)))) (cond (Nat.ble 496 pc) (cond (Nat.ble 497 pc) ((497, .iaload, 1, 0, 0, (0), (0), [], 0)) ((496, .iadd, 1, 0, 0, (0), (0), [], 0))) (cond (Nat.ble 495 pc) ((495, .iconst 1, 1, 0, 0, (1), (0), [], 0)) ((494, .iload_n 3, 1, 3, 0, (0), (0), [], 0)))))) (cond (Nat.ble 482 pc) (cond (Nat.ble 490 pc) (cond (Nat.ble 492 pc) (cond (Nat.ble 493 pc) ((493, .aload_n 0, 1, 0, 0, (0), (0), [], 0)) ((492, .aload_n 1, 1, 1, 0, (0), (0), [], 0))) (cond (Nat.ble 491 pc) ((491, .ireturn, 1, 1, 0, (0), (0), [], 0)) ((490, .iconst 0, 1, 0, 0, (0), (0), [], 0)))) (cond (Nat.ble 484 pc) (cond (Nat.ble 487 pc) ((487, .if_icmp .eq 857, 3, 1344, 0, (0), (0), [], 0)) ((484, .invokevirtual 47, 3, 130, 3, (0), (0), [], 1142))) (cond (Nat.ble 483 pc) ((483, .iaload, 1, 0, 0, (0), (0), [], 0)) ((482, .iadd, 1, 0, 0, (0), (0), [], 0))))) (cond (Nat.ble 478 pc) (cond (Nat.ble 480 pc) (cond (Nat.ble 481 pc) ((481, .iconst 2, 1, 0, 0, (2), (0), [], 0)) ((480, .iload_n 3, 1, 3, 0, (0), (0), [], 0))) (cond (Nat.ble 479 pc) ((479, .aload_n 0, 1, 0, 0, (0), (0), [], 0)) ((478, .iaload, 1, 0, 0, (0), (0), [], 0)))) (cond (Nat.ble 476 pc) (cond (Nat.ble 477 pc) ((477, .iadd, 1, 0, 0, (0), (0), [], 0)) ((476, .iconst 1, 1, 0, 0, (1), (0), [], 0))) (cond (Nat.ble 475 pc) ((475, .iload_n 3, 1, 3, 0, (0), (0), [], 0)) ((474, .aload_n 0, 1, 0, 0, (0), (0), [], 0))))))) (cond (Nat.ble 454 pc) (cond (Nat.ble 464 pc) (cond (Nat.ble 468 pc) (cond (Nat.ble 470 pc) (cond (Nat.ble 473 pc) ((473, .aload_n 2, 1, 2, 0, (0), (0), [], 0)) ((470, .invokevirtual 44, 3, 82, 3, (0), (0), [], 782))) (cond (Nat.ble 469 pc) ((469, .iaload, 1, 0, 0, (0), (0), [], 0)) ((468, .iadd, 1, 0, 0, (0), (0), [], 0)))) (cond (Nat.ble 466 pc) (cond (Nat.ble 467 pc) ((467, .iconst 2, 1, 0, 0, (2), (0), [], 0)) ((466, .iload_n 3, 1, 3, 0, (0), (0), [], 0))) (cond (Nat.ble 465 pc) ((465, .aload_n 0, 1, 0, 0, (0), (0), [], 0)) ((464, .iaload, 1, 0, 0, (0), (0), [], 0))))) (cond (Nat.ble 460 pc) (cond (Nat.ble 462 pc) (cond (Nat.ble 463 pc) ((463, .iadd, 1, 0, 0, (0), (0), [], 0)) ((462, .iconst 1, 1, 0, 0, (1), (0), [], 0))) (cond (Nat.ble 461 pc) ((461, .iload_n 3, 1, 3, 0, (0), (0), [], 0)) ((460, .aload_n 0, 1, 0, 0, (0), (0), [], 0)))) (cond (Nat.ble 458 pc) (cond (Nat.ble 459 pc) ((459, .aload_n 1, 1, 1, 0, (0), (0), [], 0)) ((458, .ireturn, 1, 1, 0, (0), (0), [], 0))) (cond (Nat.ble 457 pc) ((457, .iconst 0, 1, 0, 0, (0), (0), [], 0)) ((454, .if_icmp .eq 890, 3, 1344, 0, (0), (0), [], 0)))))) (cond (Nat.ble 444 pc) (cond (Nat.ble 448 pc) (cond (Nat.ble 450 pc) (cond (Nat.ble 451 pc) ((451, .invokevirtual 43, 3, 129, 4, (0), (0), [], 1137)) ((450, .iaload, 1, 0, 0, (0), (0), [], 0))) (cond (Nat.ble 449 pc) ((449, .iadd, 1, 0, 0, (0), (0), [], 0)) ((448, .iconst 3, 1, 0, 0, (3), (0), [], 0)))) (cond (Nat.ble 446 pc) (cond (Nat.ble 447 pc) ((447, .iload_n 3, 1, 3, 0, (0), (0), [], 0)) ((446, .aload_n 0, 1, 0, 0, (0), (0), [], 0))) (cond (Nat.ble 445 pc) ((445, .iaload, 1, 0, 0, (0), (0), [], 0)) ((444, .iadd, 1, 0, 0, (0), (0), [], 0))))) (cond (Nat.ble 440 pc) (cond (Nat.ble 442 pc) (cond (Nat.ble 443 pc) ((443, .iconst 2, 1, 0, 0, (2), (0), [], 0)) ((442, .iload_n 3, 1, 3, 0, (0), (0), [], 0))) (cond (Nat.ble 441 pc) ((441, .aload_n 0, 1, 0, 0, (0), (0), [], 0)) ((440, .iaload, 1, 0, 0, (0), (0), [], 0)))) (cond (Nat.ble 438 pc) (cond (Nat.ble 439 pc) ((439, .iadd, 1, 0, 0, (0), (0), [], 0)) ((438, .iconst 1, 1, 0, 0, (1), (0), [], 0))) ((437, .iload_n 3, 1, 3, 0, (0), (0), [], 0))))))))) (cond (Nat.ble 290 pc) (cond (Nat.ble 361 pc) (cond (Nat.ble 399 pc) (cond (Nat.ble 419 pc) (cond (Nat.ble 427 pc) (cond (Nat.ble 431 pc) (cond (Nat.ble 435 pc) (cond (Nat.ble 436 pc) ((436, .aload_n 0, 1, 0, 0, (0), (0), [], 0)) ((435, .aload_n 2, 1, 2, 0, (0), (0), [], 0))) (cond (Nat.ble 432 pc) ((432, .invokevirtual 40, 3, 81, 4, (0), (0), [], 777)) ((431, .iaload, 1, 0, 0, (0), (0), [], 0)))) (cond (Nat.ble 429 pc) (cond (Nat.ble 430 pc) ((430, .iadd, 1, 0, 0, (0), (0), [], 0)) ((429, .iconst 3, 1, 0, 0, (3), (0), [], 0))) (cond (Nat.ble 428 pc) ((428, .iload_n 3, 1, 3, 0, (0), (0), [], 0)) ((427, .aload_n 0, 1, 0, 0, (0), (0), [], 0))))) (cond (Nat.ble 423 pc) (cond (Nat.ble 425 pc) (cond (Nat.ble 426 pc) ((426, .iaload, 1, 0, 0, (0), (0), [], 0)) ((425, .iadd, 1, 0, 0, (0), (0), [], 0))) (cond (Nat.ble 424 pc) ((424, .iconst 2, 1, 0, 0, (2), (0), [], 0)) ((423, .iload_n 3, 1, 3, 0, (0), (0), [], 0)))) (cond (Nat.ble 421 pc) (cond (Nat.ble 422 pc) ((422, .aload_n 0, 1, 0, 0, (0), (0), [], 0)) ((421, .iaload, 1, 0, 0, (0), (0), [], 0))) (cond (Nat.ble 420 pc) ((420, .iadd, 1, 0, 0, (0), (0), [], 0)) ((419, .iconst 1, 1, 0, 0, (1), (0), [], 0)))))) (cond (Nat.ble 407 pc) (cond (Nat.ble 415 pc) (cond (Nat.ble 417 pc) (cond (Nat.ble 418 pc) ((418, .iload_n 3, 1, 3, 0, (0), (0), [], 0)) ((417, .aload_n 0, 1, 0, 0, (0), (0), [], 0))) (cond (Nat.ble 416 pc) ((416, .aload_n 1, 1, 1, 0, (0), (0), [], 0)) ((415, .ireturn, 1, 1, 0, (0), (0), [], 0)))) (cond (Nat.ble 411 pc) (cond (Nat.ble 414 pc) ((414, .iconst 0, 1, 0, 0, (0), (0), [], 0)) ((411, .if_icmp .eq 933, 3, 1344, 0, (0), (0), [], 0))) (cond (Nat.ble 408 pc) ((408, .invokevirtual 39, 3, 127, 4, (0), (0), [], 1128)) ((407, .iaload, 1, 0, 0, (0), (0), [], 0))))) (cond (Nat.ble 403 pc) (cond (Nat.ble 405 pc) (cond (Nat.ble 406 pc) ((406, .iadd, 1, 0, 0, (0), (0), [], 0)) ((405, .iconst 3, 1, 0, 0, (3), (0), [], 0))) (cond (Nat.ble 404 pc) ((404, .iload_n 3, 1, 3, 0, (0), (0), [], 0)) ((403, .aload_n 0, 1, 0, 0, (0), (0), [], 0)))) (cond (Nat.ble 401 pc) (cond (Nat.ble 402 pc) ((402, .iaload, 1, 0, 0, (0), (0), [], 0)) ((401, .iadd, 1, 0, 0, (0), (0), [], 0))) (cond (Nat.ble 400 pc) ((400, .iconst 2, 1, 0, 0, (2), (0), [], 0)) ((399, .iload_n 3, 1, 3, 0, (0), (0), [], 0))))))) (cond (Nat.ble 381 pc) (cond (Nat.ble 389 pc) (cond (Nat.ble 395 pc) (cond (Nat.ble 397 pc) (cond (Nat.ble 398 pc) ((398, .aload_n 0, 1, 0, 0, (0), (0), [], 0)) ((397, .iaload, 1, 0, 0, (0), (0), [], 0))) (cond (Nat.ble 396 pc) ((396, .iadd, 1, 0, 0, (0), (0), [], 0)) ((395, .iconst 1, 1, 0, 0, (1), (0), [], 0)))) (cond (Nat.ble 393 pc) (cond (Nat.ble 394 pc) ((394, .iload_n 3, 1, 3, 0, (0), (0), [], 0)) ((393, .aload_n 0, 1, 0, 0, (0), (0), [], 0))) (cond (Nat.ble 392 pc) ((392, .aload_n 2, 1, 2, 0, (0), (0), [], 0)) ((389, .invokevirtual 35, 3, 79, 4, (0), (0), [], 759))))) (cond (Nat.ble 385 pc) (cond (Nat.ble 387 pc) (cond (Nat.ble 388 pc) ((388, .iaload, 1, 0, 0, (0), (0), [], 0)) ((387, .iadd, 1, 0, 0, (0), (0), [], 0))) (cond (Nat.ble 386 pc) ((386, .iconst 3, 1, 0, 0, (3), (0), [], 0)) ((385, .iload_n 3, 1, 3, 0, (0), (0), [], 0)))) (cond (Nat.ble 383 pc) (cond (Nat.ble 384 pc) ((384, .aload_n 0, 1, 0, 0, (0), (0), [], 0)) ((383, .iaload, 1, 0, 0, (0), (0), [], 0))) (cond (Nat.ble 382 pc) ((382, .iadd, 1, 0, 0, (0), (0), [], 0)) ((381, .iconst 2, 1, 0, 0, (2), (0), [], 0)))))) (cond (Nat.ble 373 pc) (cond (Nat.ble 377 pc) (cond (Nat.ble 379 pc) (cond (Nat.ble 380 pc) ((380, .iload_n 3, 1, 3, 0, (0), (0), [], 0)) ((379, .aload_n 0, 1, 0, 0, (0), (0), [], 0))) (cond (Nat.ble 378 pc) ((378, .iaload, 1, 0, 0, (0), (0), [], 0)) ((377, .iadd, 1, 0, 0, (0), (0), [], 0)))) (cond (Nat.ble 375 pc) (cond (Nat.ble 376 pc) ((376, .iconst 1, 1, 0, 0, (1), (0), [], 0)) ((375, .iload_n 3, 1, 3, 0, (0), (0), [], 0))) (cond (Nat.ble 374 pc) ((374, .aload_n 0, 1, 0, 0, (0), (0), [], 0)) ((373, .aload_n 1, 1, 1, 0, (0), (0), [], 0))))) (cond (Nat.ble 365 pc) (cond (Nat.ble 371 pc) (cond (Nat.ble 372 pc) ((372, .ireturn, 1, 1, 0, (0), (0), [], 0)) ((371, .iconst 0, 1, 0, 0, (0), (0), [], 0))) (cond (Nat.ble 368 pc) ((368, .if_icmp .eq 976, 3, 1344, 0, (0), (0), [], 0)) ((365, .invokevirtual 34, 3, 126, 5, (0), (0), [], 1123)))) (cond (Nat.ble 363 pc) (cond (Nat.ble 364 pc) ((364, .iaload, 1, 0, 0, (0), (0), [], 0)) ((363, .iadd, 1, 0, 0, (0), (0), [], 0))) (cond (Nat.ble 362 pc) ((362, .iconst 4, 1, 0, 0, (4), (0), [], 0)) ((361, .iload_n 3, 1, 3, 0, (0), (0), [], 0)))))))) (cond (Nat.ble 327 pc) (cond (Nat.ble 345 pc) (cond (Nat.ble 353 pc) (cond (Nat.ble 357 pc) (cond (Nat.ble 359 pc) (cond (Nat.ble 360 pc) ((360, .aload_n 0, 1, 0, 0, (0), (0), [], 0)) ((359, .iaload, 1, 0, 0, (0), (0), [], 0))) (cond (Nat.ble 358 pc) ((358, .iadd, 1, 0, 0, (0), (0), [], 0)) ((357, .iconst 3, 1, 0, 0, (3), (0), [], 0)))) (cond (Nat.ble 355 pc) (cond (Nat.ble 356 pc) ((356, .iload_n 3, 1, 3, 0, (0), (0), [], 0)) ((355, .aload_n 0, 1, 0, 0, (0), (0), [], 0))) (cond (Nat.ble 354 pc) ((354, .iaload, 1, 0, 0, (0), (0), [], 0)) ((353, .iadd, 1, 0, 0, (0), (0), [], 0))))) (cond (Nat.ble 349 pc) (cond (Nat.ble 351 pc) (cond (Nat.ble 352 pc) ((352, .iconst 2, 1, 0, 0, (2), (0), [], 0)) ((351, .iload_n 3, 1, 3, 0, (0), (0), [], 0))) (cond (Nat.ble 350 pc) ((350, .aload_n 0, 1, 0, 0, (0), (0), [], 0)) ((349, .iaload, 1, 0, 0, (0), (0), [], 0)))) (cond (Nat.ble 347 pc) (cond (Nat.ble 348 pc) ((348, .iadd, 1, 0, 0, (0), (0), [], 0)) ((347, .iconst 1, 1, 0, 0, (1), (0), [], 0))) (cond (Nat.ble 346 pc) ((346, .iload_n 3, 1, 3, 0, (0), (0), [], 0)) ((345, .aload_n 0, 1, 0, 0, (0), (0), [], 0)))))) (cond (Nat.ble 335 pc) (cond (Nat.ble 339 pc) (cond (Nat.ble 341 pc) (cond (Nat.ble 344 pc) ((344, .aload_n 2, 1, 2, 0, (0), (0), [], 0)) ((341, .invokevirtual 31, 3, 76, 5, (0), (0), [], 738))) (cond (Nat.ble 340 pc) ((340, .iaload, 1, 0, 0, (0), (0), [], 0)) ((339, .iadd, 1, 0, 0, (0), (0), [], 0)))) (cond (Nat.ble 337 pc) (cond (Nat.ble 338 pc) ((338, .iconst 4, 1, 0, 0, (4), (0), [], 0)) ((337, .iload_n 3, 1, 3, 0, (0), (0), [], 0))) (cond (Nat.ble 336 pc) ((336, .aload_n 0, 1, 0, 0, (0), (0), [], 0)) ((335, .iaload, 1, 0, 0, (0), (0), [], 0))))) (cond (Nat.ble 331 pc) (cond (Nat.ble 333 pc) (cond (Nat.ble 334 pc) ((334, .iadd, 1, 0, 0, (0), (0), [], 0)) ((333, .iconst 3, 1, 0, 0, (3), (0), [], 0))) (cond (Nat.ble 332 pc) ((332, .iload_n 3, 1, 3, 0, (0), (0), [], 0)) ((331, .aload_n 0, 1, 0, 0, (0), (0), [], 0)))) (cond (Nat.ble 329 pc) (cond (Nat.ble 330 pc) ((330, .iaload, 1, 0, 0, (0), (0), [], 0)) ((329, .iadd, 1, 0, 0, (0), (0), [], 0))) (cond (Nat.ble 328 pc) ((328, .iconst 2, 1, 0, 0, (2), (0), [], 0)) ((327, .iload_n 3, 1, 3, 0, (0), (0), [], 0))))))) (cond (Nat.ble 307 pc) (cond (Nat.ble 319 pc) (cond (Nat.ble 323 pc) (cond (Nat.ble 325 pc) (cond (Nat.ble 326 pc) ((326, .aload_n 0, 1, 0, 0, (0), (0), [], 0)) ((325, .iaload, 1, 0, 0, (0), (0), [], 0))) (cond (Nat.ble 324 pc) ((324, .iadd, 1, 0, 0, (0), (0), [], 0)) ((323, .iconst 1, 1, 0, 0, (1), (0), [], 0)))) (cond (Nat.ble 321 pc) (cond (Nat.ble 322 pc) ((322, .iload_n 3, 1, 3, 0, (0), (0), [], 0)) ((321, .aload_n 0, 1, 0, 0, (0), (0), [], 0))) (cond (Nat.ble 320 pc) ((320, .aload_n 1, 1, 1, 0, (0), (0), [], 0)) ((319, .ireturn, 1, 1, 0, (0), (0), [], 0))))) (cond (Nat.ble 311 pc) (cond (Nat.ble 315 pc) (cond (Nat.ble 318 pc) ((318, .iconst 0, 1, 0, 0, (0), (0), [], 0)) ((315, .if_icmp .eq 1029, 3, 1344, 0, (0), (0), [], 0))) (cond (Nat.ble 312 pc) ((312, .invokevirtual 30, 3, 125, 3, (0), (0), [], 1116)) ((311, .iaload, 1, 0, 0, (0), (0), [], 0)))) (cond (Nat.ble 309 pc) (cond (Nat.ble 310 pc) ((310, .iadd, 1, 0, 0, (0), (0), [], 0)) ((309, .iconst 2, 1, 0, 0, (2), (0), [], 0))) (cond (Nat.ble 308 pc) ((308, .iload_n 3, 1, 3, 0, (0), (0), [], 0)) ((307, .aload_n 0, 1, 0, 0, (0), (0), [], 0)))))) (cond (Nat.ble 297 pc) (cond (Nat.ble 303 pc) (cond (Nat.ble 305 pc) (cond (Nat.ble 306 pc) ((306, .iaload, 1, 0, 0, (0), (0), [], 0)) ((305, .iadd, 1, 0, 0, (0), (0), [], 0))) (cond (Nat.ble 304 pc) ((304, .iconst 1, 1, 0, 0, (1), (0), [], 0)) ((303, .iload_n 3, 1, 3, 0, (0), (0), [], 0)))) (cond (Nat.ble 301 pc) (cond (Nat.ble 302 pc) ((302, .aload_n 0, 1, 0, 0, (0), (0), [], 0)) ((301, .aload_n 2, 1, 2, 0, (0), (0), [], 0))) (cond (Nat.ble 298 pc) ((298, .invokevirtual 27, 3, 75, 3, (0), (0), [], 734)) ((297, .iaload, 1, 0, 0, (0), (0), [], 0))))) (cond (Nat.ble 293 pc) (cond (Nat.ble 295 pc) (cond (Nat.ble 296 pc) ((296, .iadd, 1, 0, 0, (0), (0), [], 0)) ((295, .iconst 2, 1, 0, 0, (2), (0), [], 0))) (cond (Nat.ble 294 pc) ((294, .iload_n 3, 1, 3, 0, (0), (0), [], 0)) ((293, .aload_n 0, 1, 0, 0, (0), (0), [], 0)))) (cond (Nat.ble 291 pc) (cond (Nat.ble 292 pc) ((292, .iaload, 1, 0, 0, (0), (0), [], 0)) ((291, .iadd, 1, 0, 0, (0), (0), [], 0))) ((290, .iconst 1, 1, 0, 0, (1), (0), [], 0)))))))) (cond (Nat.ble 215 pc) (cond (Nat.ble 252 pc) (cond (Nat.ble 270 pc) (cond (Nat.ble 278 pc) (cond (Nat.ble 286 pc) (cond (Nat.ble 288 pc) (cond (Nat.ble 289 pc) ((289, .iload_n 3, 1, 3, 0, (0), (0), [], 0)) ((288, .aload_n 0, 1, 0, 0, (0), (0), [], 0))) (cond (Nat.ble 287 pc) ((287, .aload_n 1, 1, 1, 0, (0), (0), [], 0)) ((286, .ireturn, 1, 1, 0, (0), (0), [], 0)))) (cond (Nat.ble 282 pc) (cond (Nat.ble 285 pc) ((285, .iconst 0, 1, 0, 0, (0), (0), [], 0)) ((282, .if_icmp .eq 1062, 3, 1344, 0, (0), (0), [], 0))) (cond (Nat.ble 279 pc) ((279, .invokevirtual 26, 3, 124, 3, (0), (0), [], 1112)) ((278, .iaload, 1, 0, 0, (0), (0), [], 0))))) (cond (Nat.ble 274 pc) (cond (Nat.ble 276 pc) (cond (Nat.ble 277 pc) ((277, .iadd, 1, 0, 0, (0), (0), [], 0)) ((276, .iconst 2, 1, 0, 0, (2), (0), [], 0))) (cond (Nat.ble 275 pc) ((275, .iload_n 3, 1, 3, 0, (0), (0), [], 0)) ((274, .aload_n 0, 1, 0, 0, (0), (0), [], 0)))) (cond (Nat.ble 272 pc) (cond (Nat.ble 273 pc) ((273, .iaload, 1, 0, 0, (0), (0), [], 0)) ((272, .iadd, 1, 0, 0, (0), (0), [], 0))) (cond (Nat.ble 271 pc) ((271, .iconst 1, 1, 0, 0, (1), (0), [], 0)) ((270, .iload_n 3, 1, 3, 0, (0), (0), [], 0)))))) (cond (Nat.ble 260 pc) (cond (Nat.ble 264 pc) (cond (Nat.ble 268 pc) (cond (Nat.ble 269 pc) ((269, .aload_n 0, 1, 0, 0, (0), (0), [], 0)) ((268, .aload_n 2, 1, 2, 0, (0), (0), [], 0))) (cond (Nat.ble 265 pc) ((265, .invokevirtual 23, 3, 74, 3, (0), (0), [], 730)) ((264, .iaload, 1, 0, 0, (0), (0), [], 0)))) (cond (Nat.ble 262 pc) (cond (Nat.ble 263 pc) ((263, .iadd, 1, 0, 0, (0), (0), [], 0)) ((262, .iconst 2, 1, 0, 0, (2), (0), [], 0))) (cond (Nat.ble 261 pc) ((261, .iload_n 3, 1, 3, 0, (0), (0), [], 0)) ((260, .aload_n 0, 1, 0, 0, (0), (0), [], 0))))) (cond (Nat.ble 256 pc) (cond (Nat.ble 258 pc) (cond (Nat.ble 259 pc) ((259, .iaload, 1, 0, 0, (0), (0), [], 0)) ((258, .iadd, 1, 0, 0, (0), (0), [], 0))) (cond (Nat.ble 257 pc) ((257, .iconst 1, 1, 0, 0, (1), (0), [], 0)) ((256, .iload_n 3, 1, 3, 0, (0), (0), [], 0)))) (cond (Nat.ble 254 pc) (cond (Nat.ble 255 pc) ((255, .aload_n 0, 1, 0, 0, (0), (0), [], 0)) ((254, .aload_n 1, 1, 1, 0, (0), (0), [], 0))) (cond (Nat.ble 253 pc) ((253, .ireturn, 1, 1, 0, (0), (0), [], 0)) ((252, .iconst 0, 1, 0, 0, (0), (0), [], 0))))))) (cond (Nat.ble 232 pc) (cond (Nat.ble 240 pc) (cond (Nat.ble 244 pc) (cond (Nat.ble 246 pc) (cond (Nat.ble 249 pc) ((249, .if_icmp .eq 1095, 3, 1344, 0, (0), (0), [], 0)) ((246, .invokevirtual 22, 3, 120, 5, (0), (0), [], 1094))) (cond (Nat.ble 245 pc) ((245, .iaload, 1, 0, 0, (0), (0), [], 0)) ((244, .iadd, 1, 0, 0, (0), (0), [], 0)))) (cond (Nat.ble 242 pc) (cond (Nat.ble 243 pc) ((243, .iconst 4, 1, 0, 0, (4), (0), [], 0)) ((242, .iload_n 3, 1, 3, 0, (0), (0), [], 0))) (cond (Nat.ble 241 pc) ((241, .aload_n 0, 1, 0, 0, (0), (0), [], 0)) ((240, .iaload, 1, 0, 0, (0), (0), [], 0))))) (cond (Nat.ble 236 pc) (cond (Nat.ble 238 pc) (cond (Nat.ble 239 pc) ((239, .iadd, 1, 0, 0, (0), (0), [], 0)) ((238, .iconst 3, 1, 0, 0, (3), (0), [], 0))) (cond (Nat.ble 237 pc) ((237, .iload_n 3, 1, 3, 0, (0), (0), [], 0)) ((236, .aload_n 0, 1, 0, 0, (0), (0), [], 0)))) (cond (Nat.ble 234 pc) (cond (Nat.ble 235 pc) ((235, .iaload, 1, 0, 0, (0), (0), [], 0)) ((234, .iadd, 1, 0, 0, (0), (0), [], 0))) (cond (Nat.ble 233 pc) ((233, .iconst 2, 1, 0, 0, (2), (0), [], 0)) ((232, .iload_n 3, 1, 3, 0, (0), (0), [], 0)))))) (cond (Nat.ble 222 pc) (cond (Nat.ble 228 pc) (cond (Nat.ble 230 pc) (cond (Nat.ble 231 pc) ((231, .aload_n 0, 1, 0, 0, (0), (0), [], 0)) ((230, .iaload, 1, 0, 0, (0), (0), [], 0))) (cond (Nat.ble 229 pc) ((229, .iadd, 1, 0, 0, (0), (0), [], 0)) ((228, .iconst 1, 1, 0, 0, (1), (0), [], 0)))) (cond (Nat.ble 226 pc) (cond (Nat.ble 227 pc) ((227, .iload_n 3, 1, 3, 0, (0), (0), [], 0)) ((226, .aload_n 0, 1, 0, 0, (0), (0), [], 0))) (cond (Nat.ble 225 pc) ((225, .aload_n 2, 1, 2, 0, (0), (0), [], 0)) ((222, .invokevirtual 18, 3, 72, 5, (0), (0), [], 713))))) (cond (Nat.ble 218 pc) (cond (Nat.ble 220 pc) (cond (Nat.ble 221 pc) ((221, .iaload, 1, 0, 0, (0), (0), [], 0)) ((220, .iadd, 1, 0, 0, (0), (0), [], 0))) (cond (Nat.ble 219 pc) ((219, .iconst 4, 1, 0, 0, (4), (0), [], 0)) ((218, .iload_n 3, 1, 3, 0, (0), (0), [], 0)))) (cond (Nat.ble 216 pc) (cond (Nat.ble 217 pc) ((217, .aload_n 0, 1, 0, 0, (0), (0), [], 0)) ((216, .iaload, 1, 0, 0, (0), (0), [], 0))) ((215, .iadd, 1, 0, 0, (0), (0), [], 0))))))) (cond (Nat.ble 177 pc) (cond (Nat.ble 199 pc) (cond (Nat.ble 207 pc) (cond (Nat.ble 211 pc) (cond (Nat.ble 213 pc) (cond (Nat.ble 214 pc) ((214, .iconst 3, 1, 0, 0, (3), (0), [], 0)) ((213, .iload_n 3, 1, 3, 0, (0), (0), [], 0))) (cond (Nat.ble 212 pc) ((212, .aload_n 0, 1, 0, 0, (0), (0), [], 0)) ((211, .iaload, 1, 0, 0, (0), (0), [], 0)))) (cond (Nat.ble 209 pc) (cond (Nat.ble 210 pc) ((210, .iadd, 1, 0, 0, (0), (0), [], 0)) ((209, .iconst 2, 1, 0, 0, (2), (0), [], 0))) (cond (Nat.ble 208 pc) ((208, .iload_n 3, 1, 3, 0, (0), (0), [], 0)) ((207, .aload_n 0, 1, 0, 0, (0), (0), [], 0))))) (cond (Nat.ble 203 pc) (cond (Nat.ble 205 pc) (cond (Nat.ble 206 pc) ((206, .iaload, 1, 0, 0, (0), (0), [], 0)) ((205, .iadd, 1, 0, 0, (0), (0), [], 0))) (cond (Nat.ble 204 pc) ((204, .iconst 1, 1, 0, 0, (1), (0), [], 0)) ((203, .iload_n 3, 1, 3, 0, (0), (0), [], 0)))) (cond (Nat.ble 201 pc) (cond (Nat.ble 202 pc) ((202, .aload_n 0, 1, 0, 0, (0), (0), [], 0)) ((201, .aload_n 1, 1, 1, 0, (0), (0), [], 0))) (cond (Nat.ble 200 pc) ((200, .ireturn, 1, 1, 0, (0), (0), [], 0)) ((199, .iconst 0, 1, 0, 0, (0), (0), [], 0)))))) (cond (Nat.ble 187 pc) (cond (Nat.ble 191 pc) (cond (Nat.ble 193 pc) (cond (Nat.ble 196 pc) ((196, .if_icmp .eq 1148, 3, 1344, 0, (0), (0), [], 0)) ((193, .invokevirtual 17, 3, 118, 3, (0), (0), [], 1086))) (cond (Nat.ble 192 pc) ((192, .iaload, 1, 0, 0, (0), (0), [], 0)) ((191, .iadd, 1, 0, 0, (0), (0), [], 0)))) (cond (Nat.ble 189 pc) (cond (Nat.ble 190 pc) ((190, .iconst 2, 1, 0, 0, (2), (0), [], 0)) ((189, .iload_n 3, 1, 3, 0, (0), (0), [], 0))) (cond (Nat.ble 188 pc) ((188, .aload_n 0, 1, 0, 0, (0), (0), [], 0)) ((187, .iaload, 1, 0, 0, (0), (0), [], 0))))) (cond (Nat.ble 183 pc) (cond (Nat.ble 185 pc) (cond (Nat.ble 186 pc) ((186, .iadd, 1, 0, 0, (0), (0), [], 0)) ((185, .iconst 1, 1, 0, 0, (1), (0), [], 0))) (cond (Nat.ble 184 pc) ((184, .iload_n 3, 1, 3, 0, (0), (0), [], 0)) ((183, .aload_n 0, 1, 0, 0, (0), (0), [], 0)))) (cond (Nat.ble 179 pc) (cond (Nat.ble 182 pc) ((182, .aload_n 2, 1, 2, 0, (0), (0), [], 0)) ((179, .invokevirtual 13, 3, 71, 3, (0), (0), [], 703))) (cond (Nat.ble 178 pc) ((178, .iaload, 1, 0, 0, (0), (0), [], 0)) ((177, .iadd, 1, 0, 0, (0), (0), [], 0))))))) (cond (Nat.ble 24 pc) (cond (Nat.ble 169 pc) (cond (Nat.ble 173 pc) (cond (Nat.ble 175 pc) (cond (Nat.ble 176 pc) ((176, .iconst 2, 1, 0, 0, (2), (0), [], 0)) ((175, .iload_n 3, 1, 3, 0, (0), (0), [], 0))) (cond (Nat.ble 174 pc) ((174, .aload_n 0, 1, 0, 0, (0), (0), [], 0)) ((173, .iaload, 1, 0, 0, (0), (0), [], 0)))) (cond (Nat.ble 171 pc) (cond (Nat.ble 172 pc) ((172, .iadd, 1, 0, 0, (0), (0), [], 0)) ((171, .iconst 1, 1, 0, 0, (1), (0), [], 0))) (cond (Nat.ble 170 pc) ((170, .iload_n 3, 1, 3, 0, (0), (0), [], 0)) ((169, .aload_n 0, 1, 0, 0, (0), (0), [], 0))))) (cond (Nat.ble 30 pc) (cond (Nat.ble 33 pc) (cond (Nat.ble 168 pc) ((168, .aload_n 1, 1, 1, 0, (0), (0), [], 0)) ((33, .tableswitch 1311 0 29 #[135, 168, 221, 254, 287, 340, 383, 426, 459, 492, 535, 578, 611, 634, 657, 710, 763, 796, 829, 852, 875, 938, 951, 974, 1062, 1116, 1169, 1192, 1235, 1278], 135, 1344, 0, (0), (0), [((0), 168), ((1), 201), ((2), 254), ((3), 287), ((4), 320), ((5), 373), ((6), 416), ((7), 459), ((8), 492), ((9), 525), ((10), 568), ((11), 611), ((12), 644), ((13), 667), ((14), 690), ((15), 743), ((16), 796), ((17), 829), ((18), 862), ((19), 885), ((20), 908), ((21), 971), ((22), 984), ((23), 1007), ((24), 1095), ((25), 1149), ((26), 1202), ((27), 1225), ((28), 1268), ((29), 1311)], 0))) (cond (Nat.ble 32 pc) ((32, .iand, 1, 0, 0, (0), (0), [], 0)) ((30, .bipush 31, 2, 0, 0, (31), (0), [], 0)))) (cond (Nat.ble 28 pc) (cond (Nat.ble 29 pc) ((29, .iaload, 1, 0, 0, (0), (0), [], 0)) ((28, .iload_n 3, 1, 3, 0, (0), (0), [], 0))) (cond (Nat.ble 27 pc) ((27, .aload_n 0, 1, 0, 0, (0), (0), [], 0)) ((24, .if_icmp .gt 1326, 3, 1350, 0, (0), (0), [], 0)))))) (cond (Nat.ble 15 pc) (cond (Nat.ble 19 pc) (cond (Nat.ble 21 pc) (cond (Nat.ble 23 pc) ((23, .isub, 1, 0, 0, (0), (0), [], 0)) ((21, .bipush 8, 2, 0, 0, (8), (0), [], 0))) (cond (Nat.ble 20 pc) ((20, .arraylength, 1, 0, 0, (0), (0), [], 0)) ((19, .aload_n 0, 1, 0, 0, (0), (0), [], 0)))) (cond (Nat.ble 17 pc) (cond (Nat.ble 18 pc) ((18, .iload_n 3, 1, 3, 0, (0), (0), [], 0)) ((17, .istore_n 3, 1, 3, 0, (0), (0), [], 0))) (cond (Nat.ble 16 pc) ((16, .iconst 0, 1, 0, 0, (0), (0), [], 0)) ((15, .astore_n 2, 1, 2, 0, (0), (0), [], 0))))) (cond (Nat.ble 7 pc) (cond (Nat.ble 11 pc) (cond (Nat.ble 12 pc) ((12, .invokespecial 12, 3, 998, 1, (0), (0), [], 1256)) ((11, .dup, 1, 0, 0, (0), (0), [], 0))) (cond (Nat.ble 8 pc) ((8, .new 10, 3, 0, 0, (0), (0), [], 0)) ((7, .astore_n 1, 1, 1, 0, (0), (0), [], 0)))) (cond (Nat.ble 3 pc) (cond (Nat.ble 4 pc) ((4, .invokespecial 9, 3, 998, 1, (0), (0), [], 94)) ((3, .dup, 1, 0, 0, (0), (0), [], 0))) ((0, .new 7, 3, 0, 0, (0), (0), [], 0))))))))))
def pg (mi : Nat) : Nat → RI := cond (Nat.ble 101 mi) (cond (Nat.ble 151 mi) (cond (Nat.ble 176 mi) (cond (Nat.ble 189 mi) (cond (Nat.ble 195 mi) (cond (Nat.ble 198 mi) (cond (Nat.ble 200 mi) (cond (Nat.ble 201 mi) (pg_201) (pg_200)) (cond (Nat.ble 199 mi) (pg_199) (pg_198))) (cond (Nat.ble 196 mi) (cond (Nat.ble 197 mi) (pg_197) (pg_196)) (pg_195))) (cond (Nat.ble 192 mi) (cond (Nat.ble 193 mi) (cond (Nat.ble 194 mi) (pg_194) (pg_193)) (pg_192)) (cond (Nat.ble 190 mi) (cond (Nat.ble 191 mi) (pg_191) (pg_190)) (pg_189)))) (cond (Nat.ble 182 mi) (cond (Nat.ble 185 mi) (cond (Nat.ble 187 mi) (cond (Nat.ble 188 mi) (pg_188) (pg_187)) (cond (Nat.ble 186 mi) (pg_186) (pg_185))) (cond (Nat.ble 183 mi) (cond (Nat.ble 184 mi) (pg_184) (pg_183)) (pg_182))) (cond (Nat.ble 179 mi) (cond (Nat.ble 180 mi) (cond (Nat.ble 181 mi) (pg_181) (pg_180)) (pg_179)) (cond (Nat.ble 177 mi) (cond (Nat.ble 178 mi) (pg_178) (pg_177)) (pg_176))))) (cond (Nat.ble 163 mi) (cond (Nat.ble 169 mi) (cond (Nat.ble 172 mi) (cond (Nat.ble 174 mi) (cond (Nat.ble 175 mi) (pg_175) (pg_174)) (cond (Nat.ble 173 mi) (pg_173) (pg_172))) (cond (Nat.ble 170 mi) (cond (Nat.ble 171 mi) (pg_171) (pg_170)) (pg_169))) (cond (Nat.ble 166 mi) (cond (Nat.ble 167 mi) (cond (Nat.ble 168 mi) (pg_168) (pg_167)) (pg_166)) (cond (Nat.ble 164 mi) (cond (Nat.ble 165 mi) (pg_165) (pg_164)) (pg_163)))) (cond (Nat.ble 157 mi) (cond (Nat.ble 160 mi) (cond (Nat.ble 161 mi) (cond (Nat.ble 162 mi) (pg_162) (pg_161)) (pg_160)) (cond (Nat.ble 158 mi) (cond (Nat.ble 159 mi) (pg_159) (pg_158)) (pg_157))) (cond (Nat.ble 154 mi) (cond (Nat.ble 155 mi) (cond (Nat.ble 156 mi) (pg_156) (pg_155)) (pg_154)) (cond (Nat.ble 152 mi) (cond (Nat.ble 153 mi) (pg_153) (pg_152)) (pg_151)))))) (cond (Nat.ble 126 mi) (cond (Nat.ble 138 mi) (cond (Nat.ble 144 mi) (cond (Nat.ble 147 mi) (cond (Nat.ble 149 mi) (cond (Nat.ble 150 mi) (pg_150) (pg_149)) (cond (Nat.ble 148 mi) (pg_148) (pg_147))) (cond (Nat.ble 145 mi) (cond (Nat.ble 146 mi) (pg_146) (pg_145)) (pg_144))) (cond (Nat.ble 141 mi) (cond (Nat.ble 142 mi) (cond (Nat.ble 143 mi) (pg_143) (pg_142)) (pg_141)) (cond (Nat.ble 139 mi) (cond (Nat.ble 140 mi) (pg_140) (pg_139)) (pg_138)))) (cond (Nat.ble 132 mi) (cond (Nat.ble 135 mi) (cond (Nat.ble 136 mi) (cond (Nat.ble 137 mi) (pg_137) (pg_136)) (pg_135)) (cond (Nat.ble 133 mi) (cond (Nat.ble 134 mi) (pg_134) (pg_133)) (pg_132))) (cond (Nat.ble 129 mi) (cond (Nat.ble 130 mi) (cond (Nat.ble 131 mi) (pg_131) (pg_130)) (pg_129)) (cond (Nat.ble 127 mi) (cond (Nat.ble 128 mi) (pg_128) (pg_127)) (pg_126))))) (cond (Nat.ble 113 mi) (cond (Nat.ble 119 mi) (cond (Nat.ble 122 mi) (cond (Nat.ble 124 mi) (cond (Nat.ble 125 mi) (pg_125) (pg_124)) (cond (Nat.ble 123 mi) (pg_123) (pg_122))) (cond (Nat.ble 120 mi) (cond (Nat.ble 121 mi) (pg_121) (pg_120)) (pg_119))) (cond (Nat.ble 116 mi) (cond (Nat.ble 117 mi) (cond (Nat.ble 118 mi) (pg_118) (pg_117)) (pg_116)) (cond (Nat.ble 114 mi) (cond (Nat.ble 115 mi) (pg_115) (pg_114)) (pg_113)))) (cond (Nat.ble 107 mi) (cond (Nat.ble 110 mi) (cond (Nat.ble 111 mi) (cond (Nat.ble 112 mi) (pg_112) (pg_111)) (pg_110)) (cond (Nat.ble 108 mi) (cond (Nat.ble 109 mi) (pg_109) (pg_108)) (pg_107))) (cond (Nat.ble 104 mi) (cond (Nat.ble 105 mi) (cond (Nat.ble 106 mi) (pg_106) (pg_105)) (pg_104)) (cond (Nat.ble 102 mi) (cond (Nat.ble 103 mi) (pg_103) (pg_102)) (pg_101))))))) (cond (Nat.ble 50 mi) (cond (Nat.ble 75 mi) (cond (Nat.ble 88 mi) (cond (Nat.ble 94 mi) (cond (Nat.ble 97 mi) (cond (Nat.ble 99 mi) (cond (Nat.ble 100 mi) (pg_100) (pg_99)) (cond (Nat.ble 98 mi) (pg_98) (pg_97))) (cond (Nat.ble 95 mi) (cond (Nat.ble 96 mi) (pg_96) (pg_95)) (pg_94))) (cond (Nat.ble 91 mi) (cond (Nat.ble 92 mi) (cond (Nat.ble 93 mi) (pg_93) (pg_92)) (pg_91)) (cond (Nat.ble 89 mi) (cond (Nat.ble 90 mi) (pg_90) (pg_89)) (pg_88)))) (cond (Nat.ble 81 mi) (cond (Nat.ble 84 mi) (cond (Nat.ble 86 mi) (cond (Nat.ble 87 mi) (pg_87) (pg_86)) (cond (Nat.ble 85 mi) (pg_85) (pg_84))) (cond (Nat.ble 82 mi) (cond (Nat.ble 83 mi) (pg_83) (pg_82)) (pg_81))) (cond (Nat.ble 78 mi) (cond (Nat.ble 79 mi) (cond (Nat.ble 80 mi) (pg_80) (pg_79)) (pg_78)) (cond (Nat.ble 76 mi) (cond (Nat.ble 77 mi) (pg_77) (pg_76)) (pg_75))))) (cond (Nat.ble 62 mi) (cond (Nat.ble 68 mi) (cond (Nat.ble 71 mi) (cond (Nat.ble 73 mi) (cond (Nat.ble 74 mi) (pg_74) (pg_73)) (cond (Nat.ble 72 mi) (pg_72) (pg_71))) (cond (Nat.ble 69 mi) (cond (Nat.ble 70 mi) (pg_70) (pg_69)) (pg_68))) (cond (Nat.ble 65 mi) (cond (Nat.ble 66 mi) (cond (Nat.ble 67 mi) (pg_67) (pg_66)) (pg_65)) (cond (Nat.ble 63 mi) (cond (Nat.ble 64 mi) (pg_64) (pg_63)) (pg_62)))) (cond (Nat.ble 56 mi) (cond (Nat.ble 59 mi) (cond (Nat.ble 60 mi) (cond (Nat.ble 61 mi) (pg_61) (pg_60)) (pg_59)) (cond (Nat.ble 57 mi) (cond (Nat.ble 58 mi) (pg_58) (pg_57)) (pg_56))) (cond (Nat.ble 53 mi) (cond (Nat.ble 54 mi) (cond (Nat.ble 55 mi) (pg_55) (pg_54)) (pg_53)) (cond (Nat.ble 51 mi) (cond (Nat.ble 52 mi) (pg_52) (pg_51)) (pg_50)))))) (cond (Nat.ble 25 mi) (cond (Nat.ble 37 mi) (cond (Nat.ble 43 mi) (cond (Nat.ble 46 mi) (cond (Nat.ble 48 mi) (cond (Nat.ble 49 mi) (pg_49) (pg_48)) (cond (Nat.ble 47 mi) (pg_47) (pg_46))) (cond (Nat.ble 44 mi) (cond (Nat.ble 45 mi) (pg_45) (pg_44)) (pg_43))) (cond (Nat.ble 40 mi) (cond (Nat.ble 41 mi) (cond (Nat.ble 42 mi) (pg_42) (pg_41)) (pg_40)) (cond (Nat.ble 38 mi) (cond (Nat.ble 39 mi) (pg_39) (pg_38)) (pg_37)))) (cond (Nat.ble 31 mi) (cond (Nat.ble 34 mi) (cond (Nat.ble 35 mi) (cond (Nat.ble 36 mi) (pg_36) (pg_35)) (pg_34)) (cond (Nat.ble 32 mi) (cond (Nat.ble 33 mi) (pg_33) (pg_32)) (pg_31))) (cond (Nat.ble 28 mi) (cond (Nat.ble 29 mi) (cond (Nat.ble 30 mi) (pg_30) (pg_29)) (pg_28)) (cond (Nat.ble 26 mi) (cond (Nat.ble 27 mi) (pg_27) (pg_26)) (pg_25))))) (cond (Nat.ble 12 mi) (cond (Nat.ble 18 mi) (cond (Nat.ble 21 mi) (cond (Nat.ble 23 mi) (cond (Nat.ble 24 mi) (pg_24) (pg_23)) (cond (Nat.ble 22 mi) (pg_22) (pg_21))) (cond (Nat.ble 19 mi) (cond (Nat.ble 20 mi) (pg_20) (pg_19)) (pg_18))) (cond (Nat.ble 15 mi) (cond (Nat.ble 16 mi) (cond (Nat.ble 17 mi) (pg_17) (pg_16)) (pg_15)) (cond (Nat.ble 13 mi) (cond (Nat.ble 14 mi) (pg_14) (pg_13)) (pg_12)))) (cond (Nat.ble 6 mi) (cond (Nat.ble 9 mi) (cond (Nat.ble 10 mi) (cond (Nat.ble 11 mi) (pg_11) (pg_10)) (pg_9)) (cond (Nat.ble 7 mi) (cond (Nat.ble 8 mi) (pg_8) (pg_7)) (pg_6))) (cond (Nat.ble 3 mi) (cond (Nat.ble 4 mi) (cond (Nat.ble 5 mi) (pg_5) (pg_4)) (pg_3)) (cond (Nat.ble 1 mi) (cond (Nat.ble 2 mi) (pg_2) (pg_1)) (pg_0)))))))
end
section
/-! Kinds of cells: their shapes and how many of each; and that the tables hold the words of classes and methods. -/
abbrev XS : Type := (Nat × List (Option (Nat × Nat × Nat))) ⊕ (FieldType × Nat × Nat)
def xs_0 : XS := .inl (11, [some (1, 0, 0), some (11, 0, 0), some (14, 0, 0), some (16, 0, 0), some (20, 0, 0), some (23, 0, 0), some (25, 0, 0), some (28, 0, 0), some (31, 0, 0), none, none, none, none, none])
def xs_1 : XS := .inl (6, [some (2, 0, 0), some (3, 0, 0), none])
def xs_2 : XS := .inr ((.object "MonsoonTrade$Port"), 6, 4)
def xs_3 : XS := .inr (.int, 12, 0)
def xs_4 : XS := .inl (3, [none, none, some (5, 1, 0), some (6, 1, 0), some (7, 1, 0), some (8, 1, 0)])
def xs_5 : XS := .inr (.int, 4, 0)
def xs_6 : XS := .inr (.int, 4, 0)
def xs_7 : XS := .inr (.int, 4, 0)
def xs_8 : XS := .inl (1, [some (9, 1, 0), some (10, 1, 0)])
def xs_9 : XS := .inr (.int, 6, 0)
def xs_10 : XS := .inr (.int, 24, 0)
def xs_11 : XS := .inr ((.object "MonsoonTrade$Dhow"), 4, 12)
def xs_12 : XS := .inl (0, [none, none, none, none, none, some (13, 1, 0), none, none, some (8, 2, 6)])
def xs_13 : XS := .inr (.int, 4, 0)
def xs_14 : XS := .inr ((.object "MonsoonTrade$Venture"), 16, 15)
def xs_15 : XS := .inl (10, [none, none, none, none, none, none, none, none])
def xs_16 : XS := .inr ((.object "MonsoonTrade$Text"), 6, 17)
def xs_17 : XS := .inl (8, [some (18, 1, 0), some (19, 1, 0)])
def xs_18 : XS := .inr (.int, 65536, 0)
def xs_19 : XS := .inr (.int, 3, 0)
def xs_20 : XS := .inr ((.object "MonsoonTrade$Sheet"), 4, 21)
def xs_21 : XS := .inl (7, [some (22, 1, 0), none, none])
def xs_22 : XS := .inr (.int, 40, 0)
def xs_23 : XS := .inl (9, [some (24, 0, 0), none, none, none, none, none])
def xs_24 : XS := .inr (.byte, 160, 0)
def xs_25 : XS := .inl (4, [some (23, 0, 0), some (26, 0, 0), some (27, 0, 0), none, none, none])
def xs_26 : XS := .inr (.int, 160, 0)
def xs_27 : XS := .inr (.int, 3, 0)
def xs_28 : XS := .inl (5, [some (29, 0, 0), some (30, 0, 0), none])
def xs_29 : XS := .inr (.int, 6, 0)
def xs_30 : XS := .inr (.int, 160, 0)
def xs_31 : XS := .inl (2, [some (1, 0, 0), some (8, 0, 10), some (32, 0, 0), some (33, 0, 0), none, none, none, none, none, none, none, none])
def xs_32 : XS := .inr (.int, 3, 0)
def xs_33 : XS := .inr (.int, 3, 0)
def xs_34 : XS := .inr (.int, 6, 0)
def xs_35 : XS := .inr (.int, 65536, 0)
def xs_36 : XS := .inl (12, [none, none, some (37, 0, 0), some (38, 0, 0), some (39, 0, 0), some (40, 0, 0), some (41, 0, 0), some (42, 0, 0), none, some (43, 0, 0), some (44, 0, 0), some (45, 0, 0), some (46, 0, 0), some (47, 0, 0), some (48, 0, 0), some (49, 0, 0), some (50, 0, 0), some (51, 0, 0), some (52, 0, 0), none, some (53, 0, 0), some (54, 0, 0), some (55, 0, 0), some (56, 0, 0), some (57, 0, 0), some (58, 0, 0), some (59, 0, 0), none, none, none, some (60, 0, 0), some (61, 0, 0), none, none, none, some (62, 0, 0), some (63, 0, 0), some (64, 0, 0), some (65, 0, 0), some (66, 0, 0), some (67, 0, 0), none, none, none, none, some (68, 0, 0), none, some (69, 0, 0), some (70, 0, 0), some (71, 0, 0), none, none, none, none, none, none, some (72, 0, 0), some (73, 0, 0), some (74, 0, 0)])
def xs_37 : XS := .inr (.int, 6, 0)
def xs_38 : XS := .inr (.int, 6, 0)
def xs_39 : XS := .inr (.int, 24, 0)
def xs_40 : XS := .inr (.int, 24, 0)
def xs_41 : XS := .inr (.int, 24, 0)
def xs_42 : XS := .inr (.int, 12, 0)
def xs_43 : XS := .inr (.int, 4, 0)
def xs_44 : XS := .inr (.int, 4, 0)
def xs_45 : XS := .inr (.int, 4, 0)
def xs_46 : XS := .inr (.int, 4, 0)
def xs_47 : XS := .inr (.int, 4, 0)
def xs_48 : XS := .inr (.int, 4, 0)
def xs_49 : XS := .inr (.boolean, 4, 0)
def xs_50 : XS := .inr (.int, 16, 0)
def xs_51 : XS := .inr (.int, 60, 0)
def xs_52 : XS := .inr (.int, 240, 0)
def xs_53 : XS := .inr (.int, 16, 0)
def xs_54 : XS := .inr (.int, 16, 0)
def xs_55 : XS := .inr (.int, 16, 0)
def xs_56 : XS := .inr (.int, 16, 0)
def xs_57 : XS := .inr (.int, 16, 0)
def xs_58 : XS := .inr (.boolean, 16, 0)
def xs_59 : XS := .inr (.int, 16, 0)
def xs_60 : XS := .inr (.long, 16, 0)
def xs_61 : XS := .inr (.byte, 160, 0)
def xs_62 : XS := .inr (.int, 18, 0)
def xs_63 : XS := .inr (.int, 2880, 0)
def xs_64 : XS := .inr (.int, 2880, 0)
def xs_65 : XS := .inr (.char, 45, 0)
def xs_66 : XS := .inr (.int, 12, 0)
def xs_67 : XS := .inr (.int, 12, 0)
def xs_68 : XS := .inr (.int, 200, 0)
def xs_69 : XS := .inr (.int, 200, 0)
def xs_70 : XS := .inr (.boolean, 6, 0)
def xs_71 : XS := .inr (.int, 24, 0)
def xs_72 : XS := .inr (.int, 4, 0)
def xs_73 : XS := .inr (.int, 4, 0)
def xs_74 : XS := .inr (.int, 160, 0)
def xs_75 : XS := .inl (99, [some (76, 1, 0), none])
def xs_76 : XS := .inr (.byte, 65536, 0)
def xsh (k : Nat) : XS := cond (Nat.ble 38 k) (cond (Nat.ble 57 k) (cond (Nat.ble 67 k) (cond (Nat.ble 72 k) (cond (Nat.ble 74 k) (cond (Nat.ble 75 k) (cond (Nat.ble 76 k) (xs_76) (xs_75)) (xs_74)) (cond (Nat.ble 73 k) (xs_73) (xs_72))) (cond (Nat.ble 69 k) (cond (Nat.ble 70 k) (cond (Nat.ble 71 k) (xs_71) (xs_70)) (xs_69)) (cond (Nat.ble 68 k) (xs_68) (xs_67)))) (cond (Nat.ble 62 k) (cond (Nat.ble 64 k) (cond (Nat.ble 65 k) (cond (Nat.ble 66 k) (xs_66) (xs_65)) (xs_64)) (cond (Nat.ble 63 k) (xs_63) (xs_62))) (cond (Nat.ble 59 k) (cond (Nat.ble 60 k) (cond (Nat.ble 61 k) (xs_61) (xs_60)) (xs_59)) (cond (Nat.ble 58 k) (xs_58) (xs_57))))) (cond (Nat.ble 47 k) (cond (Nat.ble 52 k) (cond (Nat.ble 54 k) (cond (Nat.ble 55 k) (cond (Nat.ble 56 k) (xs_56) (xs_55)) (xs_54)) (cond (Nat.ble 53 k) (xs_53) (xs_52))) (cond (Nat.ble 49 k) (cond (Nat.ble 50 k) (cond (Nat.ble 51 k) (xs_51) (xs_50)) (xs_49)) (cond (Nat.ble 48 k) (xs_48) (xs_47)))) (cond (Nat.ble 42 k) (cond (Nat.ble 44 k) (cond (Nat.ble 45 k) (cond (Nat.ble 46 k) (xs_46) (xs_45)) (xs_44)) (cond (Nat.ble 43 k) (xs_43) (xs_42))) (cond (Nat.ble 40 k) (cond (Nat.ble 41 k) (xs_41) (xs_40)) (cond (Nat.ble 39 k) (xs_39) (xs_38)))))) (cond (Nat.ble 19 k) (cond (Nat.ble 28 k) (cond (Nat.ble 33 k) (cond (Nat.ble 35 k) (cond (Nat.ble 36 k) (cond (Nat.ble 37 k) (xs_37) (xs_36)) (xs_35)) (cond (Nat.ble 34 k) (xs_34) (xs_33))) (cond (Nat.ble 30 k) (cond (Nat.ble 31 k) (cond (Nat.ble 32 k) (xs_32) (xs_31)) (xs_30)) (cond (Nat.ble 29 k) (xs_29) (xs_28)))) (cond (Nat.ble 23 k) (cond (Nat.ble 25 k) (cond (Nat.ble 26 k) (cond (Nat.ble 27 k) (xs_27) (xs_26)) (xs_25)) (cond (Nat.ble 24 k) (xs_24) (xs_23))) (cond (Nat.ble 21 k) (cond (Nat.ble 22 k) (xs_22) (xs_21)) (cond (Nat.ble 20 k) (xs_20) (xs_19))))) (cond (Nat.ble 9 k) (cond (Nat.ble 14 k) (cond (Nat.ble 16 k) (cond (Nat.ble 17 k) (cond (Nat.ble 18 k) (xs_18) (xs_17)) (xs_16)) (cond (Nat.ble 15 k) (xs_15) (xs_14))) (cond (Nat.ble 11 k) (cond (Nat.ble 12 k) (cond (Nat.ble 13 k) (xs_13) (xs_12)) (xs_11)) (cond (Nat.ble 10 k) (xs_10) (xs_9)))) (cond (Nat.ble 4 k) (cond (Nat.ble 6 k) (cond (Nat.ble 7 k) (cond (Nat.ble 8 k) (xs_8) (xs_7)) (xs_6)) (cond (Nat.ble 5 k) (xs_5) (xs_4))) (cond (Nat.ble 2 k) (cond (Nat.ble 3 k) (xs_3) (xs_2)) (cond (Nat.ble 1 k) (xs_1) (xs_0))))))
def xcnt (k : Nat) : Nat := cond (Nat.ble 77 k) 0 (cond (Nat.ble 38 k) (cond (Nat.ble 57 k) (cond (Nat.ble 67 k) (cond (Nat.ble 72 k) (cond (Nat.ble 74 k) (cond (Nat.ble 75 k) (cond (Nat.ble 76 k) (3) (3)) (1)) (cond (Nat.ble 73 k) (1) (1))) (cond (Nat.ble 69 k) (cond (Nat.ble 70 k) (cond (Nat.ble 71 k) (1) (1)) (1)) (cond (Nat.ble 68 k) (1) (1)))) (cond (Nat.ble 62 k) (cond (Nat.ble 64 k) (cond (Nat.ble 65 k) (cond (Nat.ble 66 k) (1) (1)) (1)) (cond (Nat.ble 63 k) (1) (1))) (cond (Nat.ble 59 k) (cond (Nat.ble 60 k) (cond (Nat.ble 61 k) (1) (1)) (1)) (cond (Nat.ble 58 k) (1) (1))))) (cond (Nat.ble 47 k) (cond (Nat.ble 52 k) (cond (Nat.ble 54 k) (cond (Nat.ble 55 k) (cond (Nat.ble 56 k) (1) (1)) (1)) (cond (Nat.ble 53 k) (1) (1))) (cond (Nat.ble 49 k) (cond (Nat.ble 50 k) (cond (Nat.ble 51 k) (1) (1)) (1)) (cond (Nat.ble 48 k) (1) (1)))) (cond (Nat.ble 42 k) (cond (Nat.ble 44 k) (cond (Nat.ble 45 k) (cond (Nat.ble 46 k) (1) (1)) (1)) (cond (Nat.ble 43 k) (1) (1))) (cond (Nat.ble 40 k) (cond (Nat.ble 41 k) (1) (1)) (cond (Nat.ble 39 k) (1) (1)))))) (cond (Nat.ble 19 k) (cond (Nat.ble 28 k) (cond (Nat.ble 33 k) (cond (Nat.ble 35 k) (cond (Nat.ble 36 k) (cond (Nat.ble 37 k) (1) (1)) (1)) (cond (Nat.ble 34 k) (1) (1))) (cond (Nat.ble 30 k) (cond (Nat.ble 31 k) (cond (Nat.ble 32 k) (1) (1)) (1)) (cond (Nat.ble 29 k) (1) (1)))) (cond (Nat.ble 23 k) (cond (Nat.ble 25 k) (cond (Nat.ble 26 k) (cond (Nat.ble 27 k) (1) (1)) (1)) (cond (Nat.ble 24 k) (1) (1))) (cond (Nat.ble 21 k) (cond (Nat.ble 22 k) (4) (4)) (cond (Nat.ble 20 k) (1) (6))))) (cond (Nat.ble 9 k) (cond (Nat.ble 14 k) (cond (Nat.ble 16 k) (cond (Nat.ble 17 k) (cond (Nat.ble 18 k) (6) (6)) (1)) (cond (Nat.ble 15 k) (16) (1))) (cond (Nat.ble 11 k) (cond (Nat.ble 12 k) (cond (Nat.ble 13 k) (4) (4)) (1)) (cond (Nat.ble 10 k) (11) (11)))) (cond (Nat.ble 4 k) (cond (Nat.ble 6 k) (cond (Nat.ble 7 k) (cond (Nat.ble 8 k) (11) (6)) (6)) (cond (Nat.ble 5 k) (6) (6))) (cond (Nat.ble 2 k) (cond (Nat.ble 3 k) (1) (1)) (cond (Nat.ble 1 k) (1) (1)))))))
theorem xin_r (ws : List Cond) (ps : List Nat) (hp : ws = ps.filterMap (fun i => lw_tbl[i]?)) (h : ws.all goodWord = true) : ∀ w ∈ ws, w ∈ lw_tbl.filter goodWord := by
  intro w hw
  have h1 := List.all_eq_true.mp h w hw
  rw [hp] at hw
  obtain ⟨i, -, hi⟩ := List.mem_filterMap.mp hw
  exact List.mem_filter.mpr ⟨List.mem_of_getElem? hi, h1⟩
set_option maxRecDepth 20000 in
theorem xg_0 : ∀ w ∈ u_ws RX0 TX0 9, w ∈ lw_tbl.filter goodWord := xin_r _ [336, 338, 340, 342, 344, 346, 348, 350, 352] (by decide +kernel) (by decide +kernel)
set_option maxRecDepth 20000 in
theorem xg_1 : ∀ w ∈ u_ws RX1 TX1 2, w ∈ lw_tbl.filter goodWord := xin_r _ [129, 131] (by decide +kernel) (by decide +kernel)
set_option maxRecDepth 20000 in
theorem xg_2 : ∀ w ∈ u_ws RX2 TX2 12, w ∈ lw_tbl.filter goodWord := xin_r _ [283, 285, 287, 289, 291, 293, 295, 297, 299, 301, 303, 305] (by decide +kernel) (by decide +kernel)
set_option maxRecDepth 20000 in
theorem xg_3 : ∀ w ∈ u_ws RX3 TX3 6, w ∈ lw_tbl.filter goodWord := xin_r _ [148, 150, 152, 154, 156, 158] (by decide +kernel) (by decide +kernel)
set_option maxRecDepth 20000 in
theorem xg_4 : ∀ w ∈ u_ws RX4 TX4 6, w ∈ lw_tbl.filter goodWord := xin_r _ [229, 231, 233, 235, 237, 239] (by decide +kernel) (by decide +kernel)
set_option maxRecDepth 20000 in
theorem xg_5 : ∀ w ∈ u_ws RX5 TX5 3, w ∈ lw_tbl.filter goodWord := xin_r _ [251, 253, 255] (by decide +kernel) (by decide +kernel)
set_option maxRecDepth 20000 in
theorem xg_6 : ∀ w ∈ u_ws RX6 TX6 3, w ∈ lw_tbl.filter goodWord := xin_r _ [169, 171, 173] (by decide +kernel) (by decide +kernel)
set_option maxRecDepth 20000 in
theorem xg_7 : ∀ w ∈ u_ws RX7 TX7 3, w ∈ lw_tbl.filter goodWord := xin_r _ [415, 417, 419] (by decide +kernel) (by decide +kernel)
set_option maxRecDepth 20000 in
theorem xg_8 : ∀ w ∈ u_ws RX8 TX8 2, w ∈ lw_tbl.filter goodWord := xin_r _ [400, 402] (by decide +kernel) (by decide +kernel)
set_option maxRecDepth 20000 in
theorem xg_9 : ∀ w ∈ u_ws RX9 TX9 6, w ∈ lw_tbl.filter goodWord := xin_r _ [200, 202, 204, 206, 208, 210] (by decide +kernel) (by decide +kernel)
set_option maxRecDepth 20000 in
theorem xg_10 : ∀ w ∈ u_ws RX10 TX10 8, w ∈ lw_tbl.filter goodWord := xin_r _ [374, 376, 378, 380, 382, 384, 386, 388] (by decide +kernel) (by decide +kernel)
set_option maxRecDepth 20000 in
theorem xg_11 : ∀ w ∈ u_ws RX11 TX11 14, w ∈ lw_tbl.filter goodWord := xin_r _ [674, 676, 678, 680, 682, 684, 686, 688, 690, 692, 694, 696, 698, 700] (by decide +kernel) (by decide +kernel)
set_option maxRecDepth 20000 in
theorem xg_12 : ∀ w ∈ u_ws RX12 TX12 59, w ∈ lw_tbl.filter goodWord := xin_r _ [1323, 1325, 1327, 1329, 1331, 1333, 1335, 1337, 1339, 1341, 1343, 1345, 1347, 1349, 1351, 1353, 1355, 1357, 1359, 1361, 1363, 1365, 1367, 1369, 1371, 1373, 1375, 1377, 1379, 1381, 1383, 1385, 1387, 1389, 1391, 1393, 1395, 1397, 1399, 1401, 1403, 1405, 1407, 1409, 1411, 1413, 1415, 1417, 1419, 1421, 1423, 1425, 1427, 1429, 1431, 1433, 1435, 1437, 1439] (by decide +kernel) (by decide +kernel)
end
section
/-! THE ABSTRACT MACHINE: values are ints, longs and references (kind, number); the store is a function of kind, number and place; V is the judgement, CT a contract. -/
abbrev xV : Type := Int32 ⊕ Int64 ⊕ (Nat × Nat)
abbrev xS : Type := (Nat → Nat → Nat → Int32) × (Nat → Nat → Nat → Int64)
abbrev xL : Type := Nat → Nat → Nat
def xcv (L : xL) (v : xV) : Value := match v with
  | .inl x => .int x
  | .inr (.inl x) => .long x
  | .inr (.inr q) => .ref (L q.1 q.2)
/-- how many cells of a kind live: the model's kinds (36 .. 74) only where the mark L 99 0 is 1 -/
def xcn (L : xL) (k : Nat) : Nat := cond (Nat.ble k 35 || (Nat.ble 75 k || Nat.beq (L 99 0) 1)) (xcnt k) 0
theorem xcn_le {L : xL} {k i : Nat} (h : i < xcn L k) : i < xcnt k := by
  unfold xcn at h
  cases hb : (Nat.ble k 35 || (Nat.ble 75 k || Nat.beq (L 99 0) 1)) with
  | true => rw [hb] at h; exact h
  | false => rw [hb] at h; exact absurd h (Nat.not_lt_zero _)
theorem xcn_to {L : xL} {k k' i i' : Nat} (h : i < xcn L k) (hkk : (!(Nat.ble k 35) || Nat.ble k' 35) = true) (hkk2 : (!(Nat.ble 75 k) || Nat.ble 75 k') = true) (h' : i' < xcnt k') : i' < xcn L k' := by
  unfold xcn at h ⊢
  cases hb : (Nat.ble k' 35 || (Nat.ble 75 k' || Nat.beq (L 99 0) 1)) with
  | true => exact h'
  | false =>
    exfalso
    have e : (Nat.ble k 35 || (Nat.ble 75 k || Nat.beq (L 99 0) 1)) = false := by
      simp only [Bool.or_eq_false_iff, Bool.or_eq_true, Bool.not_eq_true'] at hb hkk hkk2 ⊢
      refine ⟨hkk.resolve_right (by rw [hb.1]; decide), hkk2.resolve_right (by rw [hb.2.1]; decide), hb.2.2⟩
    rw [e] at h
    exact Nat.not_lt_zero _ h
def xok (L : xL) (v : xV) : Prop := match v with
  | .inr (.inr q) => q.2 < xcn L q.1
  | _ => True
def xlen (S : xS) (k i n : Nat) : Nat := cond (Nat.beq n 65536) (S.1 k i 65536).toNatClampNeg n
/-- what a reference field of the cell i points to: one cell for all, the cell i, or the cell i + a -/
def xrf (q : Nat × Nat × Nat) (i : Nat) : Nat × Nat := match q with
  | (k, 0, a) => (k, a)
  | (k, 1, _) => (k, i)
  | (k, _ + 2, a) => (k, i + a)
def xfl (L : xL) (S : xS) (k i : Nat) : Nat → List (Option (Nat × Nat × Nat)) → List Value
  | _, [] => []
  | j, none :: r => .int (S.1 k i j) :: xfl L S k i (j + 1) r
  | j, some q :: r => .ref (L (xrf q i).1 (xrf q i).2) :: xfl L S k i (j + 1) r
def xel (L : xL) (S : xS) (k i rk : Nat) (ty : FieldType) : Nat → Value := match ty with
  | .object _ => fun j => .ref (L rk j)
  | .long => fun j => .long (S.2 k i j)
  | _ => fun j => .int (S.1 k i j)
def xro (k : Nat) : Bool := Nat.beq k 34 || (Nat.beq k 35 || (Nat.beq k 75 || Nat.beq k 76))
def xcell (U : State) (D : va_G) (L : xL) (S : xS) (k i : Nat) (H : Heap) : Prop := match xsh k with
  | .inl o => (o.1 = 99 ∧ (H[L k i]?).isSome = true) ∨ ∃ r : vw_C, classes[o.1]? = some r ∧ t_OB (L k i) (D.1 o.1) r.2.2 (D.2 o.1) H (vp_V (xfl L S k i 0 o.2))
  | .inr a => (xro k = true ∧ va_T a.1 (L k i) (xlen S k i a.2.1) (xel L S k i a.2.2 a.1) (fun _ => False) U H) ∨ (xro k = false ∧ ∃ cA : ClassId, (ArrOfT U cA a.1 ∧ va_RA U cA a.1) ∧ H[L k i]? = some (arrV cA (xlen S k i a.2.1) (xel L S k i a.2.2 a.1)))
def xA (B : Nat) : Nat → Prop := fun q => B ≤ q
def xnest (w : Cond) : Bool := match w with
  | .fieldLinkNest .. => true
  | .methodLinkNest .. => true
  | _ => false
def xT : List Cond := lw_tbl.filter goodWord
def xN : List Cond := lw_tbl.filter xnest
def xsk (b : Nat) : String × Nat × String := match b with
  | 0 => ("MonsoonTrade", 76, "part parts ; food days * men ; loan owed ;")
  | 1 => ("MonsoonTrade$Tokens", 64, "part food loan or and not gain days men parts owed month ")
  | _ => ("MonsoonTrade$Tokens", 69, "();+-*<=")
/-- what the world holds beside the cells: statics, and the three String constants -/
def xEX (U : State) (B : Nat) (L : xL) (S : xS) (H : Heap) : Prop := va_Z "MonsoonTrade" "UNDER" "[I" (.ref (L 34 0)) (xA B) U H ∧ va_Z "java/lang/String" "COMPACT_STRINGS" "Z" (.int 1) (xA B) U H ∧ (∃ v, va_Z "jdk/internal/util/Preconditions" "SIOOBE_FORMATTER" "Ljava/util/function/BiFunction;" v (xA B) U H ∧ v.isRef = true) ∧
  ∀ i, i < 3 → va_O "java/lang/String" (L 75 i) (xA B) U H ∧ va_OF "java/lang/String" "value" "[B" (.ref (L 76 i)) (L 75 i) (xA B) U H ∧ va_OF "java/lang/String" "coder" "B" (.int (S.1 75 i 1)) (L 75 i) (xA B) U H
def xST (U : State) (L : xL) : Prop := ∀ i, i < 3 → vk_R (xsk i).1 (xsk i).2.1 (xsk i).2.2 (L 75 i) U
def xW (U : State) (D : va_G) (B : Nat) (L : xL) (S : xS) (H : Heap) : Prop :=
  va_K D classes [] U ∧ (∀ k i, i < xcn L k → xcell U D L S k i H) ∧ (∀ k i k' i', i < xcn L k → i' < xcn L k' → xro k = false → L k i = L k' i' → k = k' ∧ i = i') ∧ (∀ k i, i < xcn L k → xro k = false → B ≤ L k i) ∧ (∀ w ∈ xN, va_Nw w U) ∧ xEX U B L S H ∧ xST U L
theorem xEX.moved {u U : State} {B : Nat} {L : xL} {S : xS} {H : Heap} (hvm : u.vm.Alike U.vm) (h : xEX u B L S H) : xEX U B L S H := by
  obtain ⟨h1, h2, ⟨v, h3, h3v⟩, h4⟩ := h
  exact ⟨va_Z.moved hvm h1, va_Z.moved hvm h2, ⟨v, va_Z.moved hvm h3, h3v⟩, fun i hi => ⟨va_O.moved hvm (h4 i hi).1, va_OF.moved hvm (h4 i hi).2.1, va_OF.moved hvm (h4 i hi).2.2⟩⟩
theorem xEX.kept {U : State} {B : Nat} {L : xL} {S : xS} {H H1 : Heap} (h : xEX U B L S H) (hq : ∀ a : Nat, a < H.size → ¬ xA B a → H1[a]? = H[a]?) : xEX U B L S H1 := by
  obtain ⟨h1, h2, ⟨v, h3, h3v⟩, h4⟩ := h
  exact ⟨va_Z.kept h1 hq, va_Z.kept h2 hq, ⟨v, va_Z.kept h3 hq, h3v⟩, fun i hi => ⟨va_O.kept (h4 i hi).1 hq, va_OF.kept (h4 i hi).2.1 hq, va_OF.kept (h4 i hi).2.2 hq⟩⟩
theorem xEX.congr {U : State} {B : Nat} {L : xL} {S S' : xS} {H : Heap} (h : xEX U B L S H) (hS : ∀ i, S'.1 75 i 1 = S.1 75 i 1) : xEX U B L S' H := by
  obtain ⟨h1, h2, h3, h4⟩ := h
  exact ⟨h1, h2, h3, fun i hi => ⟨(h4 i hi).1, (h4 i hi).2.1, by rw [hS]; exact (h4 i hi).2.2⟩⟩
theorem xcell.moved {u U : State} {D : va_G} {L : xL} {S : xS} {k i : Nat} {H : Heap} (hvm : u.vm.Alike U.vm) (h : xcell u D L S k i H) : xcell U D L S k i H := by
  unfold xcell at h ⊢
  split at h
  · exact h
  · rcases h with ⟨hr, h⟩ | ⟨hr, cA, ⟨h1, h2⟩, h3⟩
    · exact Or.inl ⟨hr, va_T.moved hvm h⟩
    · exact Or.inr ⟨hr, cA, ⟨arrOfT_moved hvm h1, h2.moved hvm⟩, h3⟩
theorem xcell.kept {U : State} {D : va_G} {L : xL} {S : xS} {k i : Nat} {H H1 : Heap} (h : xcell U D L S k i H) (hq : H1[L k i]? = H[L k i]?) : xcell U D L S k i H1 := by
  unfold xcell at h ⊢
  split at h
  · rcases h with ⟨h0, h1⟩ | ⟨r, h1, h2⟩
    · exact Or.inl ⟨h0, by rw [hq]; exact h1⟩
    · exact Or.inr ⟨r, h1, h2.kept hq⟩
  · rcases h with ⟨hr, cell, h1, h2⟩ | ⟨hr, cA, h1, h3⟩
    · exact Or.inl ⟨hr, cell, by rw [hq]; exact h1, h2⟩
    · exact Or.inr ⟨hr, cA, h1, by rw [hq]; exact h3⟩
theorem xST.warm {s U : State} {L : xL} (hW : s.WarmedH U.vm) (h : xST s L) : xST U L := fun i hi => vk_R.warm hW (h i hi)
theorem xST.same {s U : State} {L : xL} (hv : s.vm = U.vm) (h : xST s L) : xST U L := fun i hi => vk_R.same hv.symm (h i hi)
theorem xW.warm {s U : State} {D : va_G} {B : Nat} {L : xL} {S : xS} {H : Heap} (hW : s.WarmedH U.vm) (h : xW s D B L S H) : xW U D B L S H := by
  obtain ⟨h1, h2, h3, h4, h5, h6, h7⟩ := h
  refine ⟨va_K.moved hW.alike h1, fun k i hi => (h2 k i hi).moved hW.alike, h3, h4, fun w hw => ?_, h6.moved hW.alike, h7.warm hW⟩
  have hn : xnest w = true := (List.mem_filter.mp hw).2
  have := h5 w hw
  cases w <;> first | exact va_Nw.warmF hW this | exact va_Nw.warmM hW this | (simp [xnest] at hn)
theorem xW.same {s U : State} {D : va_G} {B : Nat} {L : xL} {S : xS} {H : Heap} (hv : s.vm = U.vm) (h : xW s D B L S H) : xW U D B L S H := by
  have hA : s.vm.Alike U.vm := by rw [hv]; exact Vm.Alike.refl U.vm
  obtain ⟨h1, h2, h3, h4, h5, h6, h7⟩ := h
  refine ⟨va_K.moved hA h1, fun k i hi => (h2 k i hi).moved hA, h3, h4, fun w hw => ?_, h6.moved hA, h7.same hv⟩
  have hn : xnest w = true := (List.mem_filter.mp hw).2
  have := h5 w hw
  cases w <;> first | exact va_Nw.same rfl hv this | (simp [xnest] at hn)
def xLX (L0 L : xL) : Prop := ∀ k i, k ≠ 18 → L k i = L0 k i
theorem xcn_LX {L0 L : xL} (h : xLX L0 L) (k : Nat) : xcn L k = xcn L0 k := by unfold xcn; rw [h 99 0 (by decide)]
theorem xok_LX {L0 L : xL} (h : xLX L0 L) {v : xV} (hv : xok L0 v) : xok L v := by
  rcases v with x | x | q
  · trivial
  · trivial
  · show q.2 < xcn L q.1
    rw [xcn_LX h]; exact hv
def xQc (D : va_G) (B : Nat) (L0 : xL) (Q : Option xV → xS → Prop) : Array Value → State → Outcome → State → Prop := fun _ st oc t =>
  (∃ (r : Option xV) (S : xS) (L : xL), oc = .returned (r.map (xcv L)) ∧ (∀ v, r = some v → xok L v) ∧ Q r S ∧ xLX L0 L ∧ xW t D B L S t.heap) ∧ va_F (xA B) st t
def xRm (d c z : Nat) : Room := { frames := d, cells := c, slots := z, locals := 40 * d }
abbrev xby (mi : Nat) : ByteArray := (mt mi).2.1
abbrev xml (mi : Nat) : Nat := (mt mi).2.2.2.1
abbrev xrt (mi : Nat) : Option FieldType := (mt mi).2.2.2.2.1
def xws (mi : Nat) : List Cond := .code (mt mi).1 (xby mi) (xml mi) (xrt mi) :: xT
/-- a contract: from the store S with the arguments av the method ends with an answer and a store of which Q holds -/
def CT (d c z mi : Nat) (av : List xV) (S : xS) (Q : Option xV → xS → Prop) : Prop :=
  ∀ (l : Launch) (D : va_G) (B : Nat) (L : xL), (∀ v ∈ av, xok L v) → Met l (mt mi).1 (xws mi) (xRm d c z) (va_Pc (av.map (xcv L)) (fun U => B ≤ U.heap.size ∧ xW U D B L S U.heap)) (xQc D B L Q) c z (xA B)
def xal (L : xL) : Nat → List (Option xV) → List (Nat × Value)
  | _, [] => []
  | j, none :: r => xal L (j + 1) r
  | j, some v :: r => (j, xcv L v) :: xal L (j + 1) r
def xC (d mi : Nat) (p : Program) (R : Room) (s : State) (m : MethodId) (args : Array Value) (meth : Method) (c0 : Code) : Prop :=
  p.tables.exec = Jvm.exec ∧ c0.code = xby mi ∧ meth.sig.returnType = xrt mi ∧ c0.maxLocals = xml mi ∧ s.vm.findClass (mt mi).1.cls = some m.cls ∧ (∀ w ∈ xT, w.before args s = true) ∧ meth.locks = false ∧ d ≤ R.frames ∧ 40 * d ≤ R.locals
/-- the judgement: the machine, at pc of the method mi with locals lv, stack st and store S, comes to the method's end with Q -/
def V (d c z mi pc : Nat) (lv : List (Option xV)) (st : List xV) (S : xS) (Q : Option xV → xS → Prop) : Prop :=
  ∀ (p : Program) (l : Launch) (e : Env) (R : Room) (s : State) (m : MethodId) (args : Array Value) (below : List Frame) (meth : Method) (c0 : Code) (H : Heap) (locs : List Loc) (ls : Array Slot) (cells slots mc ms : Nat) (D : va_G) (B : Nat) (L0 L : xL),
    xC d mi p R s m args meth c0 → cells + c ≤ mc → slots + z ≤ ms → R.cells = mc → R.slots = ms → B ≤ s.heap.size → xLX L0 L → xW s D B L S H → va_S (xA B) s.heap H locs → (∀ v, some v ∈ lv → xok L v) → (∀ v ∈ st, xok L v) → lv_has ls (xml mi) (xal L 0 lv) →
    W p l e R s m args below meth c0 H locs cells slots (MQ below (xQc D B L0 Q) args s mc ms (xA B)) (F0 m pc ls (st.map (xcv L)))
/-! locals -/
def xget : List (Option xV) → Nat → Option xV
  | [], _ => none
  | a :: _, 0 => a
  | _ :: r, i + 1 => xget r i
def xlong (a : Option xV) : Bool := match a with
  | some (.inr (.inl _)) => true
  | _ => false
def xnh (r : List (Option xV)) : List (Option xV) := match r with
  | [] => []
  | _ :: t => none :: t
def xset : List (Option xV) → Nat → xV → List (Option xV)
  | [], _, _ => []
  | _ :: r, 0, v => some v :: cond (xlong (some v)) (xnh r) r
  | a :: r, 1, v => cond (xlong a) none a :: xset r 0 v
  | a :: r, i + 2, v => a :: xset r (i + 1) v
theorem xal_mem {L : xL} {q : Nat × Value} : ∀ {lv : List (Option xV)} {j : Nat}, q ∈ xal L j lv → j ≤ q.1
  | [], _, h => by cases h
  | none :: r, j, h => Nat.le_of_succ_le (xal_mem (lv := r) (j := j + 1) h)
  | some v :: r, j, h => by
    rcases List.mem_cons.mp h with h | h
    · rw [h]; exact Nat.le_refl _
    · exact Nat.le_of_succ_le (xal_mem (lv := r) (j := j + 1) h)
theorem xget_mem {L : xL} {v : xV} : ∀ {lv : List (Option xV)} {i : Nat} (j : Nat), xget lv i = some v → (j + i, xcv L v) ∈ xal L j lv
  | [], _, _, h => by cases h
  | none :: _, 0, _, h => by cases h
  | some a :: r, 0, j, h => by
    have : a = v := Option.some.inj h
    subst this
    exact List.mem_cons_self
  | none :: r, i + 1, j, h => by
    have := xget_mem (L := L) (lv := r) (i := i) (j + 1) h
    rw [show j + (i + 1) = j + 1 + i by omega]; exact this
  | some a :: r, i + 1, j, h => by
    have := xget_mem (L := L) (lv := r) (i := i) (j + 1) h
    rw [show j + (i + 1) = j + 1 + i by omega]; exact List.mem_cons_of_mem _ this
theorem xget_ok {v : xV} : ∀ {lv : List (Option xV)} {i : Nat}, xget lv i = some v → some v ∈ lv
  | [], _, h => by cases h
  | a :: _, 0, h => by rw [show a = some v from h]; exact List.mem_cons_self
  | _ :: r, i + 1, h => List.mem_cons_of_mem _ (xget_ok (lv := r) (i := i) h)
theorem xnh_mem {v : xV} {r : List (Option xV)} (h : some v ∈ xnh r) : some v ∈ r := by
  cases r with
  | nil => exact h
  | cons a t =>
    rcases List.mem_cons.mp h with h | h
    · cases h
    · exact List.mem_cons_of_mem _ h
theorem xset_ok {u v : xV} : ∀ {lv : List (Option xV)} {i : Nat}, some u ∈ xset lv i v → u = v ∨ some u ∈ lv
  | [], _, h => by cases h
  | a :: r, 0, h => by
    rcases List.mem_cons.mp h with h | h
    · exact Or.inl (Option.some.inj h)
    · right
      cases hc : xlong (some v) with
      | true => rw [hc] at h; exact List.mem_cons_of_mem _ (xnh_mem h)
      | false => rw [hc] at h; exact List.mem_cons_of_mem _ h
  | a :: r, 1, h => by
    rcases List.mem_cons.mp h with h | h
    · right
      cases hc : xlong a with
      | true => rw [hc] at h; cases h
      | false => rw [hc] at h; rw [h]; exact List.mem_cons_self
    · rcases xset_ok (lv := r) (i := 0) h with h | h
      · exact Or.inl h
      · exact Or.inr (List.mem_cons_of_mem _ h)
  | a :: r, i + 2, h => by
    rcases List.mem_cons.mp h with h | h
    · right; rw [h]; exact List.mem_cons_self
    · rcases xset_ok (lv := r) (i := i + 1) h with h | h
      · exact Or.inl h
      · exact Or.inr (List.mem_cons_of_mem _ h)
theorem xcat {L : xL} {v : xV} (h : (xcv L v).category = 2) : xlong (some v) = true := by
  rcases v with x | x | q
  · simp [xcv, Value.category] at h
  · rfl
  · simp [xcv, Value.category] at h
theorem xnh_al {L : xL} {q : Nat × Value} {r : List (Option xV)} {j : Nat} (h : q ∈ xal L j (xnh r)) : q ∈ xal L j r ∧ j + 1 ≤ q.1 := by
  cases r with
  | nil => cases h
  | cons a t =>
    have h : q ∈ xal L (j + 1) t := h
    refine ⟨?_, xal_mem h⟩
    cases a with
    | none => exact h
    | some b => exact List.mem_cons_of_mem _ h
theorem xset_al {L : xL} {v : xV} {q : Nat × Value} : ∀ {lv : List (Option xV)} {i j : Nat}, q ∈ xal L j (xset lv i v) → q = (j + i, xcv L v) ∨ (q ∈ xal L j lv ∧ q.1 ≠ j + i ∧ ¬ (q.1 + 1 = j + i ∧ q.2.category = 2) ∧ (xlong (some v) = true → q.1 ≠ j + i + 1))
  | [], _, _, h => by cases h
  | a :: r, 0, j, h => by
    rcases List.mem_cons.mp (show q ∈ (j, xcv L v) :: xal L (j + 1) (cond (xlong (some v)) (xnh r) r) from h) with h | h
    · exact Or.inl h
    · right
      have hm : q ∈ xal L (j + 1) r ∧ (xlong (some v) = true → j + 2 ≤ q.1) := by
        cases hc : xlong (some v) with
        | true => rw [hc] at h; exact ⟨(xnh_al h).1, fun _ => (xnh_al h).2⟩
        | false => rw [hc] at h; exact ⟨h, fun h => by cases h⟩
      have hj := xal_mem hm.1
      refine ⟨?_, by omega, by omega, fun hl => by have := hm.2 hl; omega⟩
      cases a with
      | none => exact hm.1
      | some b => exact List.mem_cons_of_mem _ hm.1
  | a :: r, 1, j, h => by
    have key : q ∈ xal L (j + 1) (xset r 0 v) → q = (j + 1, xcv L v) ∨ (q ∈ xal L j (a :: r) ∧ q.1 ≠ j + 1 ∧ ¬ (q.1 + 1 = j + 1 ∧ q.2.category = 2) ∧ (xlong (some v) = true → q.1 ≠ j + 1 + 1)) := by
      intro h
      rcases xset_al (lv := r) (i := 0) (j := j + 1) h with h | ⟨h1, h2, h3, h4⟩
      · exact Or.inl h
      · right
        have hj := xal_mem h1
        refine ⟨?_, h2, by omega, h4⟩
        cases a with
        | none => exact h1
        | some b => exact List.mem_cons_of_mem _ h1
    cases a with
    | none => exact key h
    | some b =>
      have h : q ∈ xal L j (cond (xlong (some b)) none (some b) :: xset r 0 v) := h
      cases hc : xlong (some b) with
      | true => rw [hc] at h; exact key h
      | false =>
        rw [hc] at h
        rcases List.mem_cons.mp (show q ∈ (j, xcv L b) :: xal L (j + 1) (xset r 0 v) from h) with h | h
        · right
          subst h
          refine ⟨List.mem_cons_self, by simp, fun h => ?_, fun _ => by show j ≠ j + 1 + 1; omega⟩
          have := xcat h.2
          rw [hc] at this; cases this
        · exact key h
  | a :: r, i + 2, j, h => by
    have key : q ∈ xal L (j + 1) (xset r (i + 1) v) → q = (j + (i + 2), xcv L v) ∨ (q ∈ xal L j (a :: r) ∧ q.1 ≠ j + (i + 2) ∧ ¬ (q.1 + 1 = j + (i + 2) ∧ q.2.category = 2) ∧ (xlong (some v) = true → q.1 ≠ j + (i + 2) + 1)) := by
      intro h
      rcases xset_al (lv := r) (i := i + 1) (j := j + 1) h with h | ⟨h1, h2, h3, h4⟩
      · left; rw [h]; congr 1; omega
      · right
        refine ⟨?_, by omega, fun h => h3 ⟨by omega, h.2⟩, fun hl => by have := h4 hl; omega⟩
        cases a with
        | none => exact h1
        | some b => exact List.mem_cons_of_mem _ h1
    cases a with
    | none => exact key h
    | some b =>
      rcases List.mem_cons.mp (show q ∈ (j, xcv L b) :: xal L (j + 1) (xset r (i + 1) v) from h) with h | h
      · right
        subst h
        refine ⟨List.mem_cons_self, by simp, fun h => ?_, fun _ => ?_⟩
        · have := h.1; simp at this
        · simp; omega
      · exact key h
end
section
section XR
variable {d c z mi pc : Nat} {lv : List (Option xV)} {st : List xV} {S : xS} {Q : Option xV → xS → Prop}
theorem vs_iconst {n : Int} {v : Int32} (hd : decode (xby mi) pc = .ok (.iconst n, 1)) (hv : Int32.ofInt n = v) (h : V d c z mi (pc + 1) lv (.inl (v) :: st) S Q) : V d c z mi pc lv (st) S Q := by
  intro p l e R s m args below meth c0 H locs ls cells slots mc ms D B L0 L C hc hz hRc hRs hB hL hW hS hlv hst hl
  exact lv_iconst C.1 C.2.1 hd hv (h p l e R s m args below meth c0 H locs ls cells slots mc ms D B L0 L C hc hz hRc hRs hB hL hW hS hlv (by simpa [xok] using hst) hl)
theorem vs_bipush {n : Int} {v : Int32} (hd : decode (xby mi) pc = .ok (.bipush n, 2)) (hv : (Int8.ofInt n).toInt32 = v) (h : V d c z mi (pc + 2) lv (.inl (v) :: st) S Q) : V d c z mi pc lv (st) S Q := by
  intro p l e R s m args below meth c0 H locs ls cells slots mc ms D B L0 L C hc hz hRc hRs hB hL hW hS hlv hst hl
  exact lv_bipush C.1 C.2.1 hd hv (h p l e R s m args below meth c0 H locs ls cells slots mc ms D B L0 L C hc hz hRc hRs hB hL hW hS hlv (by simpa [xok] using hst) hl)
theorem vs_sipush {n : Int} {v : Int32} (hd : decode (xby mi) pc = .ok (.sipush n, 3)) (hv : (Int16.ofInt n).toInt32 = v) (h : V d c z mi (pc + 3) lv (.inl (v) :: st) S Q) : V d c z mi pc lv (st) S Q := by
  intro p l e R s m args below meth c0 H locs ls cells slots mc ms D B L0 L C hc hz hRc hRs hB hL hW hS hlv hst hl
  exact lv_sipush C.1 C.2.1 hd hv (h p l e R s m args below meth c0 H locs ls cells slots mc ms D B L0 L C hc hz hRc hRs hB hL hW hS hlv (by simpa [xok] using hst) hl)
theorem vs_lconst {n : Fin 2} {v : Int64} (hd : decode (xby mi) pc = .ok (.lconst n, 1)) (hv : Int64.ofNat (n : Nat) = v) (h : V d c z mi (pc + 1) lv (.inr (.inl (v)) :: st) S Q) : V d c z mi pc lv (st) S Q := by
  intro p l e R s m args below meth c0 H locs ls cells slots mc ms D B L0 L C hc hz hRc hRs hB hL hW hS hlv hst hl
  exact lv_lconst C.1 C.2.1 hd hv (h p l e R s m args below meth c0 H locs ls cells slots mc ms D B L0 L C hc hz hRc hRs hB hL hW hS hlv (by simpa [xok] using hst) hl)
theorem vs_iadd {x y : Int32} (hd : decode (xby mi) pc = .ok (.iadd, 1)) (h : V d c z mi (pc + 1) lv (.inl (x + y) :: st) S Q) : V d c z mi pc lv (.inl y :: .inl x :: st) S Q := by
  intro p l e R s m args below meth c0 H locs ls cells slots mc ms D B L0 L C hc hz hRc hRs hB hL hW hS hlv hst hl
  exact lv_iadd C.1 C.2.1 hd (h p l e R s m args below meth c0 H locs ls cells slots mc ms D B L0 L C hc hz hRc hRs hB hL hW hS hlv (by simpa [xok] using hst) hl)
theorem vs_isub {x y : Int32} (hd : decode (xby mi) pc = .ok (.isub, 1)) (h : V d c z mi (pc + 1) lv (.inl (x - y) :: st) S Q) : V d c z mi pc lv (.inl y :: .inl x :: st) S Q := by
  intro p l e R s m args below meth c0 H locs ls cells slots mc ms D B L0 L C hc hz hRc hRs hB hL hW hS hlv hst hl
  exact lv_isub C.1 C.2.1 hd (h p l e R s m args below meth c0 H locs ls cells slots mc ms D B L0 L C hc hz hRc hRs hB hL hW hS hlv (by simpa [xok] using hst) hl)
theorem vs_imul {x y : Int32} (hd : decode (xby mi) pc = .ok (.imul, 1)) (h : V d c z mi (pc + 1) lv (.inl (x * y) :: st) S Q) : V d c z mi pc lv (.inl y :: .inl x :: st) S Q := by
  intro p l e R s m args below meth c0 H locs ls cells slots mc ms D B L0 L C hc hz hRc hRs hB hL hW hS hlv hst hl
  exact lv_imul C.1 C.2.1 hd (h p l e R s m args below meth c0 H locs ls cells slots mc ms D B L0 L C hc hz hRc hRs hB hL hW hS hlv (by simpa [xok] using hst) hl)
theorem vs_iand {x y : Int32} (hd : decode (xby mi) pc = .ok (.iand, 1)) (h : V d c z mi (pc + 1) lv (.inl (x &&& y) :: st) S Q) : V d c z mi pc lv (.inl y :: .inl x :: st) S Q := by
  intro p l e R s m args below meth c0 H locs ls cells slots mc ms D B L0 L C hc hz hRc hRs hB hL hW hS hlv hst hl
  exact lv_iand C.1 C.2.1 hd (h p l e R s m args below meth c0 H locs ls cells slots mc ms D B L0 L C hc hz hRc hRs hB hL hW hS hlv (by simpa [xok] using hst) hl)
theorem vs_ishr {x y : Int32} (hd : decode (xby mi) pc = .ok (.ishr, 1)) (h : V d c z mi (pc + 1) lv (.inl (x >>> (y &&& 31)) :: st) S Q) : V d c z mi pc lv (.inl y :: .inl x :: st) S Q := by
  intro p l e R s m args below meth c0 H locs ls cells slots mc ms D B L0 L C hc hz hRc hRs hB hL hW hS hlv hst hl
  exact lv_ishr C.1 C.2.1 hd (h p l e R s m args below meth c0 H locs ls cells slots mc ms D B L0 L C hc hz hRc hRs hB hL hW hS hlv (by simpa [xok] using hst) hl)
theorem vs_idiv {x y : Int32} (hd : decode (xby mi) pc = .ok (.idiv, 1)) (hne : ¬ y = 0) (h : V d c z mi (pc + 1) lv (.inl (x / y) :: st) S Q) : V d c z mi pc lv (.inl y :: .inl x :: st) S Q := by
  intro p l e R s m args below meth c0 H locs ls cells slots mc ms D B L0 L C hc hz hRc hRs hB hL hW hS hlv hst hl
  exact lv_idiv C.1 C.2.1 hd hne (h p l e R s m args below meth c0 H locs ls cells slots mc ms D B L0 L C hc hz hRc hRs hB hL hW hS hlv (by simpa [xok] using hst) hl)
theorem vs_irem {x y : Int32} (hd : decode (xby mi) pc = .ok (.irem, 1)) (hne : ¬ y = 0) (h : V d c z mi (pc + 1) lv (.inl (x - x / y * y) :: st) S Q) : V d c z mi pc lv (.inl y :: .inl x :: st) S Q := by
  intro p l e R s m args below meth c0 H locs ls cells slots mc ms D B L0 L C hc hz hRc hRs hB hL hW hS hlv hst hl
  exact lv_irem C.1 C.2.1 hd hne (h p l e R s m args below meth c0 H locs ls cells slots mc ms D B L0 L C hc hz hRc hRs hB hL hW hS hlv (by simpa [xok] using hst) hl)
theorem vs_ineg {x : Int32} (hd : decode (xby mi) pc = .ok (.ineg, 1)) (h : V d c z mi (pc + 1) lv (.inl (-x) :: st) S Q) : V d c z mi pc lv (.inl x :: st) S Q := by
  intro p l e R s m args below meth c0 H locs ls cells slots mc ms D B L0 L C hc hz hRc hRs hB hL hW hS hlv hst hl
  exact lv_ineg C.1 C.2.1 hd (h p l e R s m args below meth c0 H locs ls cells slots mc ms D B L0 L C hc hz hRc hRs hB hL hW hS hlv (by simpa [xok] using hst) hl)
theorem vs_ladd {x y : Int64} (hd : decode (xby mi) pc = .ok (.ladd, 1)) (h : V d c z mi (pc + 1) lv (.inr (.inl (x + y)) :: st) S Q) : V d c z mi pc lv (.inr (.inl y) :: .inr (.inl x) :: st) S Q := by
  intro p l e R s m args below meth c0 H locs ls cells slots mc ms D B L0 L C hc hz hRc hRs hB hL hW hS hlv hst hl
  exact lv_ladd C.1 C.2.1 hd (h p l e R s m args below meth c0 H locs ls cells slots mc ms D B L0 L C hc hz hRc hRs hB hL hW hS hlv (by simpa [xok] using hst) hl)
theorem vs_lsub {x y : Int64} (hd : decode (xby mi) pc = .ok (.lsub, 1)) (h : V d c z mi (pc + 1) lv (.inr (.inl (x - y)) :: st) S Q) : V d c z mi pc lv (.inr (.inl y) :: .inr (.inl x) :: st) S Q := by
  intro p l e R s m args below meth c0 H locs ls cells slots mc ms D B L0 L C hc hz hRc hRs hB hL hW hS hlv hst hl
  exact lv_lsub C.1 C.2.1 hd (h p l e R s m args below meth c0 H locs ls cells slots mc ms D B L0 L C hc hz hRc hRs hB hL hW hS hlv (by simpa [xok] using hst) hl)
theorem vs_lmul {x y : Int64} (hd : decode (xby mi) pc = .ok (.lmul, 1)) (h : V d c z mi (pc + 1) lv (.inr (.inl (x * y)) :: st) S Q) : V d c z mi pc lv (.inr (.inl y) :: .inr (.inl x) :: st) S Q := by
  intro p l e R s m args below meth c0 H locs ls cells slots mc ms D B L0 L C hc hz hRc hRs hB hL hW hS hlv hst hl
  exact lv_lmul C.1 C.2.1 hd (h p l e R s m args below meth c0 H locs ls cells slots mc ms D B L0 L C hc hz hRc hRs hB hL hW hS hlv (by simpa [xok] using hst) hl)
theorem vs_land {x y : Int64} (hd : decode (xby mi) pc = .ok (.land, 1)) (h : V d c z mi (pc + 1) lv (.inr (.inl (x &&& y)) :: st) S Q) : V d c z mi pc lv (.inr (.inl y) :: .inr (.inl x) :: st) S Q := by
  intro p l e R s m args below meth c0 H locs ls cells slots mc ms D B L0 L C hc hz hRc hRs hB hL hW hS hlv hst hl
  exact lv_land C.1 C.2.1 hd (h p l e R s m args below meth c0 H locs ls cells slots mc ms D B L0 L C hc hz hRc hRs hB hL hW hS hlv (by simpa [xok] using hst) hl)
theorem vs_lor {x y : Int64} (hd : decode (xby mi) pc = .ok (.lor, 1)) (h : V d c z mi (pc + 1) lv (.inr (.inl (x ||| y)) :: st) S Q) : V d c z mi pc lv (.inr (.inl y) :: .inr (.inl x) :: st) S Q := by
  intro p l e R s m args below meth c0 H locs ls cells slots mc ms D B L0 L C hc hz hRc hRs hB hL hW hS hlv hst hl
  exact lv_lor C.1 C.2.1 hd (h p l e R s m args below meth c0 H locs ls cells slots mc ms D B L0 L C hc hz hRc hRs hB hL hW hS hlv (by simpa [xok] using hst) hl)
theorem vs_ldiv {x y : Int64} (hd : decode (xby mi) pc = .ok (.ldiv, 1)) (hne : ¬ y = 0) (h : V d c z mi (pc + 1) lv (.inr (.inl (x / y)) :: st) S Q) : V d c z mi pc lv (.inr (.inl y) :: .inr (.inl x) :: st) S Q := by
  intro p l e R s m args below meth c0 H locs ls cells slots mc ms D B L0 L C hc hz hRc hRs hB hL hW hS hlv hst hl
  exact lv_ldiv C.1 C.2.1 hd hne (h p l e R s m args below meth c0 H locs ls cells slots mc ms D B L0 L C hc hz hRc hRs hB hL hW hS hlv (by simpa [xok] using hst) hl)
theorem vs_lcmp {x y : Int64} (hd : decode (xby mi) pc = .ok (.lcmp, 1)) (h : V d c z mi (pc + 1) lv (.inl (lg_cmp x y) :: st) S Q) : V d c z mi pc lv (.inr (.inl y) :: .inr (.inl x) :: st) S Q := by
  intro p l e R s m args below meth c0 H locs ls cells slots mc ms D B L0 L C hc hz hRc hRs hB hL hW hS hlv hst hl
  exact W.lcmp C.1 C.2.1 hd (h p l e R s m args below meth c0 H locs ls cells slots mc ms D B L0 L C hc hz hRc hRs hB hL hW hS hlv (by simpa [xok] using hst) hl)
theorem vs_lshl {x : Int64} {y : Int32} (hd : decode (xby mi) pc = .ok (.lshl, 1)) (h : V d c z mi (pc + 1) lv (.inr (.inl (x <<< (y.toInt64 &&& 63))) :: st) S Q) : V d c z mi pc lv (.inl y :: .inr (.inl x) :: st) S Q := by
  intro p l e R s m args below meth c0 H locs ls cells slots mc ms D B L0 L C hc hz hRc hRs hB hL hW hS hlv hst hl
  exact lv_lshl C.1 C.2.1 hd rfl (h p l e R s m args below meth c0 H locs ls cells slots mc ms D B L0 L C hc hz hRc hRs hB hL hW hS hlv (by simpa [xok] using hst) hl)
theorem vs_lshr {x : Int64} {y : Int32} (hd : decode (xby mi) pc = .ok (.lshr, 1)) (h : V d c z mi (pc + 1) lv (.inr (.inl (x >>> (y.toInt64 &&& 63))) :: st) S Q) : V d c z mi pc lv (.inl y :: .inr (.inl x) :: st) S Q := by
  intro p l e R s m args below meth c0 H locs ls cells slots mc ms D B L0 L C hc hz hRc hRs hB hL hW hS hlv hst hl
  exact lv_lshr C.1 C.2.1 hd rfl (h p l e R s m args below meth c0 H locs ls cells slots mc ms D B L0 L C hc hz hRc hRs hB hL hW hS hlv (by simpa [xok] using hst) hl)
theorem vs_i2l {x : Int32} (hd : decode (xby mi) pc = .ok (.i2l, 1)) (h : V d c z mi (pc + 1) lv (.inr (.inl (x.toInt64)) :: st) S Q) : V d c z mi pc lv (.inl x :: st) S Q := by
  intro p l e R s m args below meth c0 H locs ls cells slots mc ms D B L0 L C hc hz hRc hRs hB hL hW hS hlv hst hl
  exact lv_i2l C.1 C.2.1 hd rfl (h p l e R s m args below meth c0 H locs ls cells slots mc ms D B L0 L C hc hz hRc hRs hB hL hW hS hlv (by simpa [xok] using hst) hl)
theorem vs_l2i {x : Int64} (hd : decode (xby mi) pc = .ok (.l2i, 1)) (h : V d c z mi (pc + 1) lv (.inl (x.toInt32) :: st) S Q) : V d c z mi pc lv (.inr (.inl x) :: st) S Q := by
  intro p l e R s m args below meth c0 H locs ls cells slots mc ms D B L0 L C hc hz hRc hRs hB hL hW hS hlv hst hl
  exact lv_l2i C.1 C.2.1 hd rfl (h p l e R s m args below meth c0 H locs ls cells slots mc ms D B L0 L C hc hz hRc hRs hB hL hW hS hlv (by simpa [xok] using hst) hl)
theorem vs_i2b {x : Int32} (hd : decode (xby mi) pc = .ok (.i2b, 1)) (h : V d c z mi (pc + 1) lv (.inl (x.toInt8.toInt32) :: st) S Q) : V d c z mi pc lv (.inl x :: st) S Q := by
  intro p l e R s m args below meth c0 H locs ls cells slots mc ms D B L0 L C hc hz hRc hRs hB hL hW hS hlv hst hl
  exact lv_i2b C.1 C.2.1 hd rfl (h p l e R s m args below meth c0 H locs ls cells slots mc ms D B L0 L C hc hz hRc hRs hB hL hW hS hlv (by simpa [xok] using hst) hl)
theorem vs_i2s {x : Int32} (hd : decode (xby mi) pc = .ok (.i2s, 1)) (h : V d c z mi (pc + 1) lv (.inl (x.toInt16.toInt32) :: st) S Q) : V d c z mi pc lv (.inl x :: st) S Q := by
  intro p l e R s m args below meth c0 H locs ls cells slots mc ms D B L0 L C hc hz hRc hRs hB hL hW hS hlv hst hl
  exact lv_i2s C.1 C.2.1 hd rfl (h p l e R s m args below meth c0 H locs ls cells slots mc ms D B L0 L C hc hz hRc hRs hB hL hW hS hlv (by simpa [xok] using hst) hl)
theorem vs_i2c {x : Int32} (hd : decode (xby mi) pc = .ok (.i2c, 1)) (h : V d c z mi (pc + 1) lv (.inl ((x.toUInt32 % 65536).toInt32) :: st) S Q) : V d c z mi pc lv (.inl x :: st) S Q := by
  intro p l e R s m args below meth c0 H locs ls cells slots mc ms D B L0 L C hc hz hRc hRs hB hL hW hS hlv hst hl
  exact lv_i2c C.1 C.2.1 hd rfl (h p l e R s m args below meth c0 H locs ls cells slots mc ms D B L0 L C hc hz hRc hRs hB hL hW hS hlv (by simpa [xok] using hst) hl)
theorem xc1 {L : xL} {v : xV} (h : xlong (some v) = false) : (xcv L v).category = 1 := by
  rcases v with x | x | q
  · rfl
  · cases h
  · rfl
theorem vs_dup {v : xV} (hd : decode (xby mi) pc = .ok (.dup, 1)) (hv : xlong (some v) = false) (h : V d c z mi (pc + 1) lv (v :: v :: st) S Q) : V d c z mi pc lv (v :: st) S Q := by
  intro p l e R s m args below meth c0 H locs ls cells slots mc ms D B L0 L C hc hz hRc hRs hB hL hW hS hlv hst hl
  exact lv_dup C.1 C.2.1 hd (xc1 hv) (h p l e R s m args below meth c0 H locs ls cells slots mc ms D B L0 L C hc hz hRc hRs hB hL hW hS hlv (fun u hu => by rcases List.mem_cons.mp hu with e | hu; exact hst u (by rw [e]; exact List.mem_cons_self); exact hst u hu) hl)
theorem vs_dup2 {v u : xV} (hd : decode (xby mi) pc = .ok (.dup2, 1)) (hv : xlong (some v) = false) (hu : xlong (some u) = false) (h : V d c z mi (pc + 1) lv (v :: u :: v :: u :: st) S Q) : V d c z mi pc lv (v :: u :: st) S Q := by
  intro p l e R s m args below meth c0 H locs ls cells slots mc ms D B L0 L C hc hz hRc hRs hB hL hW hS hlv hst hl
  exact lv_dup2_11 C.1 C.2.1 hd (xc1 hv) (xc1 hu) (h p l e R s m args below meth c0 H locs ls cells slots mc ms D B L0 L C hc hz hRc hRs hB hL hW hS hlv (fun w hw => by simp only [List.mem_cons] at hw hst; rcases hw with e | e | e; exact hst w (Or.inl e); exact hst w (Or.inr (Or.inl e)); exact hst w e) hl)
theorem vs_pop {v : xV} (hd : decode (xby mi) pc = .ok (.pop, 1)) (hv : xlong (some v) = false) (h : V d c z mi (pc + 1) lv st S Q) : V d c z mi pc lv (v :: st) S Q := by
  intro p l e R s m args below meth c0 H locs ls cells slots mc ms D B L0 L C hc hz hRc hRs hB hL hW hS hlv hst hl
  exact lv_pop C.1 C.2.1 hd (xc1 hv) (h p l e R s m args below meth c0 H locs ls cells slots mc ms D B L0 L C hc hz hRc hRs hB hL hW hS hlv (fun u hu => hst u (List.mem_cons_of_mem _ hu)) hl)
theorem xat {L : xL} {ls : Array Slot} {n i : Nat} {v : xV} (hl : lv_has ls n (xal L 0 lv)) (hg : xget lv i = some v) : ls[i]? = some (.val (xcv L v)) := hl.2.2 (i, xcv L v) (by simpa using xget_mem (L := L) 0 hg)
theorem vs_iload_n {k : Fin 4} {x : Int32} (hd : decode (xby mi) pc = .ok (.iload_n k, 1)) (hg : xget lv (k : Nat) = some (.inl x)) (h : V d c z mi (pc + 1) lv (.inl x :: st) S Q) : V d c z mi pc lv st S Q := by
  intro p l e R s m args below meth c0 H locs ls cells slots mc ms D B L0 L C hc hz hRc hRs hB hL hW hS hlv hst hl
  exact lv_iload_n C.1 C.2.1 hd rfl (xat hl hg) (h p l e R s m args below meth c0 H locs ls cells slots mc ms D B L0 L C hc hz hRc hRs hB hL hW hS hlv (fun u hu => by rcases List.mem_cons.mp hu with e | hu; exact hlv u (by rw [e]; exact xget_ok hg); exact hst u hu) hl)
theorem vs_iload {i : Nat} {x : Int32} (hd : decode (xby mi) pc = .ok (.iload i, 2)) (hg : xget lv i = some (.inl x)) (h : V d c z mi (pc + 2) lv (.inl x :: st) S Q) : V d c z mi pc lv st S Q := by
  intro p l e R s m args below meth c0 H locs ls cells slots mc ms D B L0 L C hc hz hRc hRs hB hL hW hS hlv hst hl
  exact lv_iload C.1 C.2.1 hd (xat hl hg) (h p l e R s m args below meth c0 H locs ls cells slots mc ms D B L0 L C hc hz hRc hRs hB hL hW hS hlv (fun u hu => by rcases List.mem_cons.mp hu with e | hu; exact hlv u (by rw [e]; exact xget_ok hg); exact hst u hu) hl)
theorem vs_lload_n {k : Fin 4} {x : Int64} (hd : decode (xby mi) pc = .ok (.lload_n k, 1)) (hg : xget lv (k : Nat) = some (.inr (.inl x))) (h : V d c z mi (pc + 1) lv (.inr (.inl x) :: st) S Q) : V d c z mi pc lv st S Q := by
  intro p l e R s m args below meth c0 H locs ls cells slots mc ms D B L0 L C hc hz hRc hRs hB hL hW hS hlv hst hl
  exact lv_lload_n C.1 C.2.1 hd rfl (xat hl hg) (h p l e R s m args below meth c0 H locs ls cells slots mc ms D B L0 L C hc hz hRc hRs hB hL hW hS hlv (fun u hu => by rcases List.mem_cons.mp hu with e | hu; exact hlv u (by rw [e]; exact xget_ok hg); exact hst u hu) hl)
theorem vs_lload {i : Nat} {x : Int64} (hd : decode (xby mi) pc = .ok (.lload i, 2)) (hg : xget lv i = some (.inr (.inl x))) (h : V d c z mi (pc + 2) lv (.inr (.inl x) :: st) S Q) : V d c z mi pc lv st S Q := by
  intro p l e R s m args below meth c0 H locs ls cells slots mc ms D B L0 L C hc hz hRc hRs hB hL hW hS hlv hst hl
  exact lv_lload C.1 C.2.1 hd (xat hl hg) (h p l e R s m args below meth c0 H locs ls cells slots mc ms D B L0 L C hc hz hRc hRs hB hL hW hS hlv (fun u hu => by rcases List.mem_cons.mp hu with e | hu; exact hlv u (by rw [e]; exact xget_ok hg); exact hst u hu) hl)
theorem vs_aload_n {k : Fin 4} {x : Nat × Nat} (hd : decode (xby mi) pc = .ok (.aload_n k, 1)) (hg : xget lv (k : Nat) = some (.inr (.inr x))) (h : V d c z mi (pc + 1) lv (.inr (.inr x) :: st) S Q) : V d c z mi pc lv st S Q := by
  intro p l e R s m args below meth c0 H locs ls cells slots mc ms D B L0 L C hc hz hRc hRs hB hL hW hS hlv hst hl
  exact lv_aload_n C.1 C.2.1 hd rfl (xat hl hg) (h p l e R s m args below meth c0 H locs ls cells slots mc ms D B L0 L C hc hz hRc hRs hB hL hW hS hlv (fun u hu => by rcases List.mem_cons.mp hu with e | hu; exact hlv u (by rw [e]; exact xget_ok hg); exact hst u hu) hl)
theorem vs_aload {i : Nat} {x : Nat × Nat} (hd : decode (xby mi) pc = .ok (.aload i, 2)) (hg : xget lv i = some (.inr (.inr x))) (h : V d c z mi (pc + 2) lv (.inr (.inr x) :: st) S Q) : V d c z mi pc lv st S Q := by
  intro p l e R s m args below meth c0 H locs ls cells slots mc ms D B L0 L C hc hz hRc hRs hB hL hW hS hlv hst hl
  exact lv_aload C.1 C.2.1 hd (xat hl hg) (h p l e R s m args below meth c0 H locs ls cells slots mc ms D B L0 L C hc hz hRc hRs hB hL hW hS hlv (fun u hu => by rcases List.mem_cons.mp hu with e | hu; exact hlv u (by rw [e]; exact xget_ok hg); exact hst u hu) hl)
theorem xst1 {L : xL} {ls : Array Slot} {n i : Nat} {v : xV} (h : lv_has ls n ((i, xcv L v) :: (xal L 0 lv).filter (fun q => !(q.1 == i) && !(q.1 + 1 == i && q.2.category == 2)))) : lv_has ls n (xal L 0 (xset lv i v)) := by
  refine ⟨h.1, h.2.1, fun q hq => h.2.2 q ?_⟩
  rcases xset_al hq with e | ⟨h1, h2, h3, -⟩
  · rw [e, Nat.zero_add]; exact List.mem_cons_self
  · refine List.mem_cons_of_mem _ (List.mem_filter.mpr ⟨h1, ?_⟩)
    rw [Nat.zero_add] at h2 h3
    simp only [Bool.and_eq_true, Bool.not_eq_true', Bool.and_eq_false_iff, beq_eq_false_iff_ne, ne_eq]
    refine ⟨h2, ?_⟩
    by_cases h4 : q.1 + 1 = i
    · exact Or.inr (fun e => h3 ⟨h4, e⟩)
    · exact Or.inl h4
theorem xst2 {L : xL} {ls : Array Slot} {n i : Nat} {v : xV} (hv : xlong (some v) = true) (h : lv_has ls n ((i, xcv L v) :: (xal L 0 lv).filter (fun q => !(q.1 == i) && (!(q.1 == i + 1) && !(q.1 + 1 == i && q.2.category == 2))))) : lv_has ls n (xal L 0 (xset lv i v)) := by
  refine ⟨h.1, h.2.1, fun q hq => h.2.2 q ?_⟩
  rcases xset_al hq with e | ⟨h1, h2, h3, h5⟩
  · rw [e, Nat.zero_add]; exact List.mem_cons_self
  · refine List.mem_cons_of_mem _ (List.mem_filter.mpr ⟨h1, ?_⟩)
    have h5 := h5 hv
    rw [Nat.zero_add] at h2 h3 h5
    simp only [Bool.and_eq_true, Bool.not_eq_true', Bool.and_eq_false_iff, beq_eq_false_iff_ne, ne_eq]
    refine ⟨h2, h5, ?_⟩
    by_cases h4 : q.1 + 1 = i
    · exact Or.inr (fun e => h3 ⟨h4, e⟩)
    · exact Or.inl h4
theorem xsv {L : xL} {i : Nat} {v : xV} (hlv : ∀ u, some u ∈ lv → xok L u) (hst : ∀ u ∈ v :: st, xok L u) : ∀ u, some u ∈ xset lv i v → xok L u := fun u hu => by
  rcases xset_ok hu with e | hu
  · rw [e]; exact hst v List.mem_cons_self
  · exact hlv u hu
theorem xtl {L : xL} {v : xV} (hst : ∀ u ∈ v :: st, xok L u) : ∀ u ∈ st, xok L u := fun u hu => hst u (List.mem_cons_of_mem _ hu)
theorem vs_istore_n {k : Fin 4} {i : Nat} {x : Int32} (hd : decode (xby mi) pc = .ok (.istore_n k, 1)) (hk : (k : Nat) = i) (hn : i < xml mi) (h : V d c z mi (pc + 1) (xset lv i (.inl x)) st S Q) : V d c z mi pc lv (.inl x :: st) S Q := by
  intro p l e R s m args below meth c0 H locs ls cells slots mc ms D B L0 L C hc hz hRc hRs hB hL hW hS hlv hst hl
  exact lv_istore_n C.1 C.2.1 hd hk hl hn rfl (fun ls hl => h p l e R s m args below meth c0 H locs ls cells slots mc ms D B L0 L C hc hz hRc hRs hB hL hW hS (xsv hlv hst) (xtl hst) (xst1 hl))
theorem vs_istore {i : Nat} {x : Int32} (hd : decode (xby mi) pc = .ok (.istore i, 2)) (hn : i < xml mi) (h : V d c z mi (pc + 2) (xset lv i (.inl x)) st S Q) : V d c z mi pc lv (.inl x :: st) S Q := by
  intro p l e R s m args below meth c0 H locs ls cells slots mc ms D B L0 L C hc hz hRc hRs hB hL hW hS hlv hst hl
  exact lv_istore C.1 C.2.1 hd hl hn rfl (fun ls hl => h p l e R s m args below meth c0 H locs ls cells slots mc ms D B L0 L C hc hz hRc hRs hB hL hW hS (xsv hlv hst) (xtl hst) (xst1 hl))
theorem vs_lstore_n {k : Fin 4} {i : Nat} {x : Int64} (hd : decode (xby mi) pc = .ok (.lstore_n k, 1)) (hk : (k : Nat) = i) (hn : i + 1 < xml mi) (h : V d c z mi (pc + 1) (xset lv i (.inr (.inl x))) st S Q) : V d c z mi pc lv (.inr (.inl x) :: st) S Q := by
  intro p l e R s m args below meth c0 H locs ls cells slots mc ms D B L0 L C hc hz hRc hRs hB hL hW hS hlv hst hl
  exact lv_lstore_n C.1 C.2.1 hd hk hl hn rfl (fun ls hl => h p l e R s m args below meth c0 H locs ls cells slots mc ms D B L0 L C hc hz hRc hRs hB hL hW hS (xsv hlv hst) (xtl hst) (xst2 rfl hl))
theorem vs_lstore {i : Nat} {x : Int64} (hd : decode (xby mi) pc = .ok (.lstore i, 2)) (hn : i + 1 < xml mi) (h : V d c z mi (pc + 2) (xset lv i (.inr (.inl x))) st S Q) : V d c z mi pc lv (.inr (.inl x) :: st) S Q := by
  intro p l e R s m args below meth c0 H locs ls cells slots mc ms D B L0 L C hc hz hRc hRs hB hL hW hS hlv hst hl
  exact lv_lstore C.1 C.2.1 hd hl hn rfl (fun ls hl => h p l e R s m args below meth c0 H locs ls cells slots mc ms D B L0 L C hc hz hRc hRs hB hL hW hS (xsv hlv hst) (xtl hst) (xst2 rfl hl))
theorem vs_astore_n {k : Fin 4} {i : Nat} {x : Nat × Nat} (hd : decode (xby mi) pc = .ok (.astore_n k, 1)) (hk : (k : Nat) = i) (hn : i < xml mi) (h : V d c z mi (pc + 1) (xset lv i (.inr (.inr x))) st S Q) : V d c z mi pc lv (.inr (.inr x) :: st) S Q := by
  intro p l e R s m args below meth c0 H locs ls cells slots mc ms D B L0 L C hc hz hRc hRs hB hL hW hS hlv hst hl
  exact lv_astore_n C.1 C.2.1 hd hk hl hn rfl (fun ls hl => h p l e R s m args below meth c0 H locs ls cells slots mc ms D B L0 L C hc hz hRc hRs hB hL hW hS (xsv hlv hst) (xtl hst) (xst1 hl))
theorem vs_astore {i : Nat} {x : Nat × Nat} (hd : decode (xby mi) pc = .ok (.astore i, 2)) (hn : i < xml mi) (h : V d c z mi (pc + 2) (xset lv i (.inr (.inr x))) st S Q) : V d c z mi pc lv (.inr (.inr x) :: st) S Q := by
  intro p l e R s m args below meth c0 H locs ls cells slots mc ms D B L0 L C hc hz hRc hRs hB hL hW hS hlv hst hl
  exact lv_astore C.1 C.2.1 hd hl hn rfl (fun ls hl => h p l e R s m args below meth c0 H locs ls cells slots mc ms D B L0 L C hc hz hRc hRs hB hL hW hS (xsv hlv hst) (xtl hst) (xst1 hl))
theorem vs_iinc {i : Nat} {n : Int} {x v : Int32} (hd : decode (xby mi) pc = .ok (.iinc i n, 3)) (hg : xget lv i = some (.inl x)) (hv : Int32.ofInt n = v) (hn : i < xml mi) (h : V d c z mi (pc + 3) (xset lv i (.inl (x + v))) st S Q) : V d c z mi pc lv st S Q := by
  intro p l e R s m args below meth c0 H locs ls cells slots mc ms D B L0 L C hc hz hRc hRs hB hL hW hS hlv hst hl
  have hm : (i, xcv L (.inl x)) ∈ xal L 0 lv := by simpa using xget_mem (L := L) 0 hg
  obtain ⟨k, hk⟩ := List.getElem?_of_mem hm
  exact lv_iinc (k := k) C.1 C.2.1 hd hl hk (v := x + v) (by rw [hv]) hn rfl (fun ls hl => h p l e R s m args below meth c0 H locs ls cells slots mc ms D B L0 L C hc hz hRc hRs hB hL hW hS (xsv hlv (st := st) (v := .inl (x + v)) (fun u hu => by rcases List.mem_cons.mp hu with e | hu; rw [e]; exact trivial; exact hst u hu)) hst (xst1 (v := .inl (x + v)) hl))
theorem vs_if_eq {x : Int32} {off : Int} {tgt : Nat} (hd : decode (xby mi) pc = .ok (.ifCond .eq off, 3)) (ht : (pc : Int) + off = (tgt : Int)) (kt : x = 0 → V d c z mi tgt lv st S Q) (kf : ¬ x = 0 → V d c z mi (pc + 3) lv st S Q) : V d c z mi pc lv (.inl x :: st) S Q := by
  intro p l e R s m args below meth c0 H locs ls cells slots mc ms D B L0 L C hc hz hRc hRs hB hL hW hS hlv hst hl
  exact lv_if_eq C.1 C.2.1 hd ht (fun q => kt q p l e R s m args below meth c0 H locs ls cells slots mc ms D B L0 L C hc hz hRc hRs hB hL hW hS hlv (xtl hst) hl) (fun q => kf q p l e R s m args below meth c0 H locs ls cells slots mc ms D B L0 L C hc hz hRc hRs hB hL hW hS hlv (xtl hst) hl)
theorem vs_icmp_eq {x y : Int32} {off : Int} {tgt : Nat} (hd : decode (xby mi) pc = .ok (.if_icmp .eq off, 3)) (ht : (pc : Int) + off = (tgt : Int)) (kt : x = y → V d c z mi tgt lv st S Q) (kf : ¬ x = y → V d c z mi (pc + 3) lv st S Q) : V d c z mi pc lv (.inl y :: .inl x :: st) S Q := by
  intro p l e R s m args below meth c0 H locs ls cells slots mc ms D B L0 L C hc hz hRc hRs hB hL hW hS hlv hst hl
  exact lv_icmp_eq C.1 C.2.1 hd ht (fun q => kt q p l e R s m args below meth c0 H locs ls cells slots mc ms D B L0 L C hc hz hRc hRs hB hL hW hS hlv (xtl (xtl hst)) hl) (fun q => kf q p l e R s m args below meth c0 H locs ls cells slots mc ms D B L0 L C hc hz hRc hRs hB hL hW hS hlv (xtl (xtl hst)) hl)
theorem vs_if_ne {x : Int32} {off : Int} {tgt : Nat} (hd : decode (xby mi) pc = .ok (.ifCond .ne off, 3)) (ht : (pc : Int) + off = (tgt : Int)) (kt : ¬ x = 0 → V d c z mi tgt lv st S Q) (kf : x = 0 → V d c z mi (pc + 3) lv st S Q) : V d c z mi pc lv (.inl x :: st) S Q := by
  intro p l e R s m args below meth c0 H locs ls cells slots mc ms D B L0 L C hc hz hRc hRs hB hL hW hS hlv hst hl
  exact lv_if_ne C.1 C.2.1 hd ht (fun q => kt q p l e R s m args below meth c0 H locs ls cells slots mc ms D B L0 L C hc hz hRc hRs hB hL hW hS hlv (xtl hst) hl) (fun q => kf q p l e R s m args below meth c0 H locs ls cells slots mc ms D B L0 L C hc hz hRc hRs hB hL hW hS hlv (xtl hst) hl)
theorem vs_icmp_ne {x y : Int32} {off : Int} {tgt : Nat} (hd : decode (xby mi) pc = .ok (.if_icmp .ne off, 3)) (ht : (pc : Int) + off = (tgt : Int)) (kt : ¬ x = y → V d c z mi tgt lv st S Q) (kf : x = y → V d c z mi (pc + 3) lv st S Q) : V d c z mi pc lv (.inl y :: .inl x :: st) S Q := by
  intro p l e R s m args below meth c0 H locs ls cells slots mc ms D B L0 L C hc hz hRc hRs hB hL hW hS hlv hst hl
  exact lv_icmp_ne C.1 C.2.1 hd ht (fun q => kt q p l e R s m args below meth c0 H locs ls cells slots mc ms D B L0 L C hc hz hRc hRs hB hL hW hS hlv (xtl (xtl hst)) hl) (fun q => kf q p l e R s m args below meth c0 H locs ls cells slots mc ms D B L0 L C hc hz hRc hRs hB hL hW hS hlv (xtl (xtl hst)) hl)
theorem vs_if_lt {x : Int32} {off : Int} {tgt : Nat} (hd : decode (xby mi) pc = .ok (.ifCond .lt off, 3)) (ht : (pc : Int) + off = (tgt : Int)) (kt : x < 0 → V d c z mi tgt lv st S Q) (kf : ¬ x < 0 → V d c z mi (pc + 3) lv st S Q) : V d c z mi pc lv (.inl x :: st) S Q := by
  intro p l e R s m args below meth c0 H locs ls cells slots mc ms D B L0 L C hc hz hRc hRs hB hL hW hS hlv hst hl
  exact lv_if_lt C.1 C.2.1 hd ht (fun q => kt q p l e R s m args below meth c0 H locs ls cells slots mc ms D B L0 L C hc hz hRc hRs hB hL hW hS hlv (xtl hst) hl) (fun q => kf q p l e R s m args below meth c0 H locs ls cells slots mc ms D B L0 L C hc hz hRc hRs hB hL hW hS hlv (xtl hst) hl)
theorem vs_icmp_lt {x y : Int32} {off : Int} {tgt : Nat} (hd : decode (xby mi) pc = .ok (.if_icmp .lt off, 3)) (ht : (pc : Int) + off = (tgt : Int)) (kt : x < y → V d c z mi tgt lv st S Q) (kf : ¬ x < y → V d c z mi (pc + 3) lv st S Q) : V d c z mi pc lv (.inl y :: .inl x :: st) S Q := by
  intro p l e R s m args below meth c0 H locs ls cells slots mc ms D B L0 L C hc hz hRc hRs hB hL hW hS hlv hst hl
  exact lv_icmp_lt C.1 C.2.1 hd ht (fun q => kt q p l e R s m args below meth c0 H locs ls cells slots mc ms D B L0 L C hc hz hRc hRs hB hL hW hS hlv (xtl (xtl hst)) hl) (fun q => kf q p l e R s m args below meth c0 H locs ls cells slots mc ms D B L0 L C hc hz hRc hRs hB hL hW hS hlv (xtl (xtl hst)) hl)
theorem vs_if_ge {x : Int32} {off : Int} {tgt : Nat} (hd : decode (xby mi) pc = .ok (.ifCond .ge off, 3)) (ht : (pc : Int) + off = (tgt : Int)) (kt : 0 ≤ x → V d c z mi tgt lv st S Q) (kf : ¬ 0 ≤ x → V d c z mi (pc + 3) lv st S Q) : V d c z mi pc lv (.inl x :: st) S Q := by
  intro p l e R s m args below meth c0 H locs ls cells slots mc ms D B L0 L C hc hz hRc hRs hB hL hW hS hlv hst hl
  exact lv_if_ge C.1 C.2.1 hd ht (fun q => kt q p l e R s m args below meth c0 H locs ls cells slots mc ms D B L0 L C hc hz hRc hRs hB hL hW hS hlv (xtl hst) hl) (fun q => kf q p l e R s m args below meth c0 H locs ls cells slots mc ms D B L0 L C hc hz hRc hRs hB hL hW hS hlv (xtl hst) hl)
theorem vs_icmp_ge {x y : Int32} {off : Int} {tgt : Nat} (hd : decode (xby mi) pc = .ok (.if_icmp .ge off, 3)) (ht : (pc : Int) + off = (tgt : Int)) (kt : y ≤ x → V d c z mi tgt lv st S Q) (kf : ¬ y ≤ x → V d c z mi (pc + 3) lv st S Q) : V d c z mi pc lv (.inl y :: .inl x :: st) S Q := by
  intro p l e R s m args below meth c0 H locs ls cells slots mc ms D B L0 L C hc hz hRc hRs hB hL hW hS hlv hst hl
  exact lv_icmp_ge C.1 C.2.1 hd ht (fun q => kt q p l e R s m args below meth c0 H locs ls cells slots mc ms D B L0 L C hc hz hRc hRs hB hL hW hS hlv (xtl (xtl hst)) hl) (fun q => kf q p l e R s m args below meth c0 H locs ls cells slots mc ms D B L0 L C hc hz hRc hRs hB hL hW hS hlv (xtl (xtl hst)) hl)
theorem vs_if_gt {x : Int32} {off : Int} {tgt : Nat} (hd : decode (xby mi) pc = .ok (.ifCond .gt off, 3)) (ht : (pc : Int) + off = (tgt : Int)) (kt : 0 < x → V d c z mi tgt lv st S Q) (kf : ¬ 0 < x → V d c z mi (pc + 3) lv st S Q) : V d c z mi pc lv (.inl x :: st) S Q := by
  intro p l e R s m args below meth c0 H locs ls cells slots mc ms D B L0 L C hc hz hRc hRs hB hL hW hS hlv hst hl
  exact lv_if_gt C.1 C.2.1 hd ht (fun q => kt q p l e R s m args below meth c0 H locs ls cells slots mc ms D B L0 L C hc hz hRc hRs hB hL hW hS hlv (xtl hst) hl) (fun q => kf q p l e R s m args below meth c0 H locs ls cells slots mc ms D B L0 L C hc hz hRc hRs hB hL hW hS hlv (xtl hst) hl)
theorem vs_icmp_gt {x y : Int32} {off : Int} {tgt : Nat} (hd : decode (xby mi) pc = .ok (.if_icmp .gt off, 3)) (ht : (pc : Int) + off = (tgt : Int)) (kt : y < x → V d c z mi tgt lv st S Q) (kf : ¬ y < x → V d c z mi (pc + 3) lv st S Q) : V d c z mi pc lv (.inl y :: .inl x :: st) S Q := by
  intro p l e R s m args below meth c0 H locs ls cells slots mc ms D B L0 L C hc hz hRc hRs hB hL hW hS hlv hst hl
  exact lv_icmp_gt C.1 C.2.1 hd ht (fun q => kt q p l e R s m args below meth c0 H locs ls cells slots mc ms D B L0 L C hc hz hRc hRs hB hL hW hS hlv (xtl (xtl hst)) hl) (fun q => kf q p l e R s m args below meth c0 H locs ls cells slots mc ms D B L0 L C hc hz hRc hRs hB hL hW hS hlv (xtl (xtl hst)) hl)
theorem vs_if_le {x : Int32} {off : Int} {tgt : Nat} (hd : decode (xby mi) pc = .ok (.ifCond .le off, 3)) (ht : (pc : Int) + off = (tgt : Int)) (kt : x ≤ 0 → V d c z mi tgt lv st S Q) (kf : ¬ x ≤ 0 → V d c z mi (pc + 3) lv st S Q) : V d c z mi pc lv (.inl x :: st) S Q := by
  intro p l e R s m args below meth c0 H locs ls cells slots mc ms D B L0 L C hc hz hRc hRs hB hL hW hS hlv hst hl
  exact lv_if_le C.1 C.2.1 hd ht (fun q => kt q p l e R s m args below meth c0 H locs ls cells slots mc ms D B L0 L C hc hz hRc hRs hB hL hW hS hlv (xtl hst) hl) (fun q => kf q p l e R s m args below meth c0 H locs ls cells slots mc ms D B L0 L C hc hz hRc hRs hB hL hW hS hlv (xtl hst) hl)
theorem vs_icmp_le {x y : Int32} {off : Int} {tgt : Nat} (hd : decode (xby mi) pc = .ok (.if_icmp .le off, 3)) (ht : (pc : Int) + off = (tgt : Int)) (kt : x ≤ y → V d c z mi tgt lv st S Q) (kf : ¬ x ≤ y → V d c z mi (pc + 3) lv st S Q) : V d c z mi pc lv (.inl y :: .inl x :: st) S Q := by
  intro p l e R s m args below meth c0 H locs ls cells slots mc ms D B L0 L C hc hz hRc hRs hB hL hW hS hlv hst hl
  exact lv_icmp_le C.1 C.2.1 hd ht (fun q => kt q p l e R s m args below meth c0 H locs ls cells slots mc ms D B L0 L C hc hz hRc hRs hB hL hW hS hlv (xtl (xtl hst)) hl) (fun q => kf q p l e R s m args below meth c0 H locs ls cells slots mc ms D B L0 L C hc hz hRc hRs hB hL hW hS hlv (xtl (xtl hst)) hl)
theorem vs_goto {off : Int} {tgt : Nat} (hd : decode (xby mi) pc = .ok (.goto off, 3)) (ht : (pc : Int) + off = (tgt : Int)) (h : V d c z mi tgt lv st S Q) : V d c z mi pc lv st S Q := by
  intro p l e R s m args below meth c0 H locs ls cells slots mc ms D B L0 L C hc hz hRc hRs hB hL hW hS hlv hst hl
  exact lv_goto C.1 C.2.1 hd ht (h p l e R s m args below meth c0 H locs ls cells slots mc ms D B L0 L C hc hz hRc hRs hB hL hW hS hlv hst hl)
theorem vs_ldc {i : Nat} {v : Int32} (hd : decode (xby mi) pc = .ok (.ldc i, 2)) (hw : Cond.constant (mt mi).1.cls i v ∈ xT) (h : V d c z mi (pc + 2) lv (.inl v :: st) S Q) : V d c z mi pc lv st S Q := by
  intro p l e R s m args below meth c0 H locs ls cells slots mc ms D B L0 L C hc hz hRc hRs hB hL hW hS hlv hst hl
  exact lv_ldc C.1 C.2.1 C.2.2.2.2.1 (C.2.2.2.2.2.1 _ hw) hd (h p l e R s m args below meth c0 H locs ls cells slots mc ms D B L0 L C hc hz hRc hRs hB hL hW hS hlv (by simpa [xok] using hst) hl)
theorem vs_ldc_w {i : Nat} {v : Int32} (hd : decode (xby mi) pc = .ok (.ldc_w i, 3)) (hw : Cond.constant (mt mi).1.cls i v ∈ xT) (h : V d c z mi (pc + 3) lv (.inl v :: st) S Q) : V d c z mi pc lv st S Q := by
  intro p l e R s m args below meth c0 H locs ls cells slots mc ms D B L0 L C hc hz hRc hRs hB hL hW hS hlv hst hl
  exact lv_ldcw C.1 C.2.1 C.2.2.2.2.1 (C.2.2.2.2.2.1 _ hw) hd (h p l e R s m args below meth c0 H locs ls cells slots mc ms D B L0 L C hc hz hRc hRs hB hL hW hS hlv (by simpa [xok] using hst) hl)
theorem vs_ldc2 {i : Nat} {v : Int64} (hd : decode (xby mi) pc = .ok (.ldc2_w i, 3)) (hw : Cond.constantLong (mt mi).1.cls i v ∈ xT) (h : V d c z mi (pc + 3) lv (.inr (.inl v) :: st) S Q) : V d c z mi pc lv st S Q := by
  intro p l e R s m args below meth c0 H locs ls cells slots mc ms D B L0 L C hc hz hRc hRs hB hL hW hS hlv hst hl
  exact lv_ldc2 C.1 C.2.1 C.2.2.2.2.1 (C.2.2.2.2.2.1 _ hw) hd (h p l e R s m args below meth c0 H locs ls cells slots mc ms D B L0 L C hc hz hRc hRs hB hL hW hS hlv (by simpa [xok] using hst) hl)
end XR
end
section
/-! memory: fields, arrays; calls and answers -/
theorem xlay {ci : Nat} {C : String} {T : u_T} {N : Nat} (h : classes[ci]? = some (C, T, N)) : ∀ w ∈ u_ws C T N, w ∈ xT := by
  have hlt : ci < 13 := (List.getElem?_eq_some_iff.mp h).1
  match ci, h, hlt with
  | 0, h, _ => cases h; exact xg_0
  | 1, h, _ => cases h; exact xg_1
  | 2, h, _ => cases h; exact xg_2
  | 3, h, _ => cases h; exact xg_3
  | 4, h, _ => cases h; exact xg_4
  | 5, h, _ => cases h; exact xg_5
  | 6, h, _ => cases h; exact xg_6
  | 7, h, _ => cases h; exact xg_7
  | 8, h, _ => cases h; exact xg_8
  | 9, h, _ => cases h; exact xg_9
  | 10, h, _ => cases h; exact xg_10
  | 11, h, _ => cases h; exact xg_11
  | 12, h, _ => cases h; exact xg_12
  | n + 13, _, h => exact absurd h (by omega)
theorem xtyp {ci : Nat} {C : String} {T : u_T} {N : Nat} (h : classes[ci]? = some (C, T, N)) : ∃ ty0 : Nat → FieldType, (∀ k, k < N → parseFieldDescriptor (T k).2.2.1 = some (ty0 k)) ∧ ∀ a, a < N → ∀ b, b < N → a ≠ b → (T a).2.1 ≠ (T b).2.1 := by
  have hlt : ci < 13 := (List.getElem?_eq_some_iff.mp h).1
  match ci, h, hlt with
  | 0, h, _ => cases h; exact ⟨tyX0, tyX0_ok, nmX0⟩
  | 1, h, _ => cases h; exact ⟨tyX1, tyX1_ok, nmX1⟩
  | 2, h, _ => cases h; exact ⟨tyX2, tyX2_ok, nmX2⟩
  | 3, h, _ => cases h; exact ⟨tyX3, tyX3_ok, nmX3⟩
  | 4, h, _ => cases h; exact ⟨tyX4, tyX4_ok, nmX4⟩
  | 5, h, _ => cases h; exact ⟨tyX5, tyX5_ok, nmX5⟩
  | 6, h, _ => cases h; exact ⟨tyX6, tyX6_ok, nmX6⟩
  | 7, h, _ => cases h; exact ⟨tyX7, tyX7_ok, nmX7⟩
  | 8, h, _ => cases h; exact ⟨tyX8, tyX8_ok, nmX8⟩
  | 9, h, _ => cases h; exact ⟨tyX9, tyX9_ok, nmX9⟩
  | 10, h, _ => cases h; exact ⟨tyX10, tyX10_ok, nmX10⟩
  | 11, h, _ => cases h; exact ⟨tyX11, tyX11_ok, nmX11⟩
  | 12, h, _ => cases h; exact ⟨tyX12, tyX12_ok, nmX12⟩
  | n + 13, _, h => exact absurd h (by omega)
def xshok (k : Nat) : Bool := match xsh k with
  | .inl o => o.2.all (fun x => match x with
    | none => true
    | some q => ((!(Nat.ble k 35) || Nat.ble q.1 35) && (!(Nat.ble 75 k) || Nat.ble 75 q.1)) && (List.range (xcnt k)).all (fun i => Nat.ble ((xrf q i).2 + 1) (xcnt (xrf q i).1)))
  | .inr a => match a.1 with
    | .object _ => Nat.ble a.2.1 (xcnt a.2.2) && (!(xro k) && ((!(Nat.ble k 35) || Nat.ble a.2.2 35) && (!(Nat.ble 75 k) || Nat.ble 75 a.2.2)))
    | _ => true
theorem xshok_all : ∀ k, k < 77 → xshok k = true := by decide +kernel
theorem xcnt_lt {k i : Nat} (h : i < xcnt k) : k < 77 := by
  rcases Nat.lt_or_ge k 77 with q | q
  · exact q
  · exfalso
    have : xcnt k = 0 := by
      unfold xcnt
      rw [Nat.ble_eq_true_of_le q]; rfl
    omega
def xfv (S : xS) (k i b : Nat) (o : Option (Nat × Nat × Nat)) : xV := match o with
  | none => .inl (S.1 k i b)
  | some q => .inr (.inr (xrf q i))
theorem xfl_at {L : xL} {S : xS} {k i : Nat} {o : Option (Nat × Nat × Nat)} : ∀ {sl : List (Option (Nat × Nat × Nat))} {j b : Nat}, sl[b]? = some o → (xfl L S k i j sl)[b]? = some (xcv L (xfv S k i (j + b) o))
  | [], _, _, h => by simp at h
  | none :: r, j, 0, h => by simp at h; subst h; rfl
  | some q :: r, j, 0, h => by simp at h; subst h; rfl
  | none :: r, j, b + 1, h => by
    have := xfl_at (L := L) (S := S) (k := k) (i := i) (sl := r) (j := j + 1) (b := b) (by simpa using h)
    rw [show j + (b + 1) = j + 1 + b by omega, ← this]; rfl
  | some q :: r, j, b + 1, h => by
    have := xfl_at (L := L) (S := S) (k := k) (i := i) (sl := r) (j := j + 1) (b := b) (by simpa using h)
    rw [show j + (b + 1) = j + 1 + b by omega, ← this]; rfl
theorem xfl_none {L : xL} {S : xS} {k i : Nat} : ∀ {sl : List (Option (Nat × Nat × Nat))} {j b : Nat}, sl[b]? = none → (xfl L S k i j sl)[b]? = none
  | [], _, _, _ => rfl
  | none :: r, j, 0, h => by simp at h
  | some q :: r, j, 0, h => by simp at h
  | none :: r, j, b + 1, h => by
    have := xfl_none (L := L) (S := S) (k := k) (i := i) (sl := r) (j := j + 1) (b := b) (by simpa using h)
    rw [← this]; rfl
  | some q :: r, j, b + 1, h => by
    have := xfl_none (L := L) (S := S) (k := k) (i := i) (sl := r) (j := j + 1) (b := b) (by simpa using h)
    rw [← this]; rfl
theorem xrf_k (q : Nat × Nat × Nat) (i : Nat) : (xrf q i).1 = q.1 := by
  obtain ⟨k, j, a⟩ := q
  cases j with
  | zero => rfl
  | succ j => cases j <;> rfl
theorem xfv_ok {L : xL} {S : xS} {k i b ci : Nat} {sl : List (Option (Nat × Nat × Nat))} {o : Option (Nat × Nat × Nat)} (hsh : xsh k = .inl (ci, sl)) (ho : sl[b]? = some o) (hi : i < xcn L k) : xok L (xfv S k i b o) := by
  cases o with
  | none => trivial
  | some q =>
    have h := xshok_all k (xcnt_lt (xcn_le hi))
    unfold xshok at h
    rw [hsh] at h
    have h1 := List.all_eq_true.mp h _ (List.mem_of_getElem? ho)
    have h1 := Bool.and_eq_true_iff.mp h1
    have h0 := Bool.and_eq_true_iff.mp h1.1
    have h2 := List.all_eq_true.mp h1.2 i (List.mem_range.mpr (xcn_le hi))
    show (xrf q i).2 < xcn L (xrf q i).1
    exact xcn_to hi (by rw [xrf_k]; exact h0.1) (by rw [xrf_k]; exact h0.2) (Nat.le_of_ble_eq_true h2)
theorem xcell_o {U : State} {D : va_G} {L : xL} {S : xS} {k i ci : Nat} {sl : List (Option (Nat × Nat × Nat))} {H : Heap} {C : String} {T : u_T} {N : Nat} (h : xcell U D L S k i H) (hsh : xsh k = .inl (ci, sl)) (hcl : classes[ci]? = some (C, T, N)) : t_OB (L k i) (D.1 ci) N (D.2 ci) H (vp_V (xfl L S k i 0 sl)) := by
  unfold xcell at h
  rw [hsh] at h
  rcases h with ⟨e, -⟩ | ⟨r, h1, h2⟩
  · have e : ci = 99 := e
    subst e
    exact absurd hcl (by intro e; cases e)
  · cases hcl.symm.trans h1
    exact h2
theorem xcell_a {U : State} {D : va_G} {L : xL} {S : xS} {k i n rk : Nat} {ty : FieldType} {H : Heap} (h : xcell U D L S k i H) (hsh : xsh k = .inr (ty, n, rk)) (hro : xro k = false) : ∃ cA : ClassId, (ArrOfT U cA ty ∧ va_RA U cA ty) ∧ H[L k i]? = some (arrV cA (xlen S k i n) (xel L S k i rk ty)) := by
  unfold xcell at h
  rw [hsh] at h
  rcases h with ⟨e, -⟩ | ⟨-, h⟩
  · rw [hro] at e; cases e
  · exact h
theorem xcell_r {U : State} {D : va_G} {L : xL} {S : xS} {k i n rk : Nat} {ty : FieldType} {H : Heap} (h : xcell U D L S k i H) (hsh : xsh k = .inr (ty, n, rk)) : ∃ cell : Cell, H[L k i]? = some cell ∧ U.isArrayOf cell ty ∧ cell.vm ≠ .unknown ∧ xlen S k i n ≤ cell.slots.size ∧ cell.slots.size.toInt32 = Int32.ofNat (xlen S k i n) ∧ ∀ j : Nat, j < xlen S k i n → cell.slots[j]? = some (xel L S k i rk ty j) := by
  unfold xcell at h
  rw [hsh] at h
  rcases h with ⟨-, cell, h1, h2, h3, h4, h5, h6, -⟩ | ⟨-, cA, ⟨ha, -⟩, hh⟩
  · exact ⟨cell, h1, h2, h3, h4, h5, h6⟩
  · exact ⟨arrV cA (xlen S k i n) (xel L S k i rk ty), hh, ha _ _, (fun q => by cases q), (by rw [arrV_size]; exact Nat.le_refl _), (by rw [arrV_size]), fun j hj => arrV_read _ _ hj⟩
theorem vp_in_le {j : Int32} {n m : Nat} (h : vp_in j n) (hm : n ≤ m) : vp_in j m := fun q => h (q.imp id (fun q => Nat.le_trans hm q))
def xupd (S : xS) (k i j : Nat) (x : Int32) : xS := (fun k' i' j' => if k' = k ∧ i' = i ∧ j' = j then x else S.1 k' i' j', S.2)
def xupl (S : xS) (k i j : Nat) (x : Int64) : xS := (S.1, fun k' i' j' => if k' = k ∧ i' = i ∧ j' = j then x else S.2 k' i' j')
theorem xfl_congr {L : xL} {S S' : xS} {k i : Nat} (h : ∀ j, S'.1 k i j = S.1 k i j) : ∀ (sl : List (Option (Nat × Nat × Nat))) (j : Nat), xfl L S' k i j sl = xfl L S k i j sl
  | [], _ => rfl
  | none :: r, j => by
    show Value.int (S'.1 k i j) :: xfl L S' k i (j + 1) r = Value.int (S.1 k i j) :: xfl L S k i (j + 1) r
    rw [h, xfl_congr h r (j + 1)]
  | some q :: r, j => by
    show Value.ref _ :: xfl L S' k i (j + 1) r = Value.ref _ :: xfl L S k i (j + 1) r
    rw [xfl_congr h r (j + 1)]
theorem xel_congr {L : xL} {S S' : xS} {k i rk : Nat} (h : ∀ j, S'.1 k i j = S.1 k i j ∧ S'.2 k i j = S.2 k i j) (ty : FieldType) : xel L S' k i rk ty = xel L S k i rk ty := by
  funext j
  cases ty <;> simp [xel, (h j).1, (h j).2]
theorem xcell.congr {U : State} {D : va_G} {L : xL} {S S' : xS} {k i : Nat} {H : Heap} (h : xcell U D L S k i H) (hS : ∀ j, S'.1 k i j = S.1 k i j ∧ S'.2 k i j = S.2 k i j) : xcell U D L S' k i H := by
  unfold xcell at h ⊢
  split at h
  · rw [xfl_congr (fun j => (hS j).1)]; exact h
  · simp only [xel_congr hS, show ∀ n, xlen S' k i n = xlen S k i n from fun n => by unfold xlen; rw [(hS 65536).1]]
    exact h
theorem xW.upd {U : State} {D : va_G} {B : Nat} {L : xL} {S S' : xS} {H H' : Heap} {k i : Nat} (h : xW U D B L S H) (hi : i < xcn L k) (hro : xro k = false) (hc : xcell U D L S' k i H') (hoth : ∀ q, q ≠ L k i → H'[q]? = H[q]?) (hS : ∀ k' i', ¬ (k' = k ∧ i' = i) → ∀ j, S'.1 k' i' j = S.1 k' i' j ∧ S'.2 k' i' j = S.2 k' i' j) : xW U D B L S' H' := by
  obtain ⟨h1, h2, h3, h4, h5, h6, h7⟩ := h
  have hk75 : k ≠ 75 := fun e => by subst e; cases hro
  refine ⟨h1, fun k' i' hi' => ?_, h3, h4, h5, (h6.kept (fun a _ ha => hoth a (fun e => ha (by rw [e]; exact h4 k i hi hro)))).congr (fun i' => (hS 75 i' (fun e => hk75 e.1.symm) 1).1), h7⟩
  by_cases hk : k' = k ∧ i' = i
  · obtain ⟨rfl, rfl⟩ := hk; exact hc
  · exact ((h2 k' i' hi').congr (hS k' i' hk)).kept (hoth _ (fun e => hk (by have := h3 k i k' i' hi hi' hro e.symm; exact ⟨this.1.symm, this.2.symm⟩)))
theorem xupd_off (S : xS) (k i j : Nat) (x : Int32) : ∀ k' i', ¬ (k' = k ∧ i' = i) → ∀ j', (xupd S k i j x).1 k' i' j' = S.1 k' i' j' ∧ (xupd S k i j x).2 k' i' j' = S.2 k' i' j' := fun k' i' h j' => ⟨if_neg (fun q => h ⟨q.1, q.2.1⟩), rfl⟩
theorem xupl_off (S : xS) (k i j : Nat) (x : Int64) : ∀ k' i', ¬ (k' = k ∧ i' = i) → ∀ j', (xupl S k i j x).1 k' i' j' = S.1 k' i' j' ∧ (xupl S k i j x).2 k' i' j' = S.2 k' i' j' := fun k' i' h j' => ⟨rfl, if_neg (fun q => h ⟨q.1, q.2.1⟩)⟩
theorem xfl_upd {L : xL} {S : xS} {k i b : Nat} {x : Int32} {sl : List (Option (Nat × Nat × Nat))} (ho : sl[b]? = some none) (j : Nat) : updV (vp_V (xfl L S k i 0 sl)) b (.int x) j = vp_V (xfl L (xupd S k i b x) k i 0 sl) j := by
  unfold updV vp_V
  by_cases hj : j = b
  · subst hj
    rw [if_pos rfl, List.getD_eq_getElem?_getD, xfl_at ho]
    simp [xfv, xcv, xupd]
  · rw [if_neg hj, List.getD_eq_getElem?_getD, List.getD_eq_getElem?_getD]
    cases h : sl[j]? with
    | none => rw [xfl_none h, xfl_none h]
    | some o =>
      rw [xfl_at h, xfl_at h]
      cases o with
      | none => simp [xfv, xcv, xupd, hj]
      | some q => simp [xfv, xcv]
section XM
variable {d c z mi pc : Nat} {lv : List (Option xV)} {st : List xV} {S : xS} {Q : Option xV → xS → Prop}
theorem vs_getf {k i ci b idx : Nat} {sl : List (Option (Nat × Nat × Nat))} {o : Option (Nat × Nat × Nat)} {Cn : String} {T : u_T} {N : Nat} (hd : decode (xby mi) pc = .ok (.getfield idx, 3)) (hsh : xsh k = .inl (ci, sl)) (ho : sl[b]? = some o) (hcl : classes[ci]? = some (Cn, T, N)) (hb : b < N) (hlk : Cond.fieldLink (mt mi).1.cls idx (T b).1 (T b).2.1 (T b).2.2.1 ∈ xT ∨ Cond.fieldLinkNest (mt mi).1.cls idx (T b).1 (T b).2.1 (T b).2.2.1 "MonsoonTrade" ∈ xN)
    (h : V d c z mi (pc + 3) lv (xfv S k i b o :: st) S Q) : V d c z mi pc lv (.inr (.inr (k, i)) :: st) S Q := by
  intro p l e R s m args below meth c0 H locs ls cells slots mc ms D B L0 L C hc hz hRc hRs hB hL hW hS hlv hst hl
  have hi : i < xcn L k := hst _ List.mem_cons_self
  have hob := xcell_o (hW.2.1 k i hi) hsh hcl
  have hP : va_P D classes [(L k i, .inr (ci, xfl L S k i 0 sl))] H := fun n q hq => by
    have hn : n = 0 := by have := (List.getElem?_eq_some_iff.mp hq).1; simp at this; exact this
    subst hn; cases hq; exact ⟨_, hcl, hob⟩
  have hv : (xfl L S k i 0 sl)[b]? = some (xcv L (xfv S k i b o)) := by have := xfl_at (L := L) (S := S) (k := k) (i := i) (j := 0) ho; rwa [Nat.zero_add] at this
  have hst' : ∀ u ∈ xfv S k i b o :: st, xok L u := fun u hu => by
    rcases List.mem_cons.mp hu with e | hu
    · rw [e]; exact xfv_ok hsh ho hi
    · exact hst u (List.mem_cons_of_mem _ hu)
  rcases hlk with hw | hw
  · exact va_get C.1 C.2.1 (Ts := xT) C.2.2.2.2.2.1 (xlay hcl) C.2.2.2.2.1 hW.1 hP 0 rfl hcl b hb (C.2.2.2.2.2.1 _ hw) (fun _ h => h) hv hd (h p l e R s m args below meth c0 H locs ls cells slots mc ms D B L0 L C hc hz hRc hRs hB hL hW hS hlv hst' hl)
  · exact va_getN C.1 C.2.1 (Ts := xT) C.2.2.2.2.2.1 (xlay hcl) C.2.2.2.2.1 hW.1 hP 0 rfl hcl b hb (va_Nw.use rfl (hW.2.2.2.2.1 _ hw)) (fun _ h => h) hv hd (h p l e R s m args below meth c0 H locs ls cells slots mc ms D B L0 L C hc hz hRc hRs hB hL hW hS hlv hst' hl)
theorem vs_putf {k i ci b idx : Nat} {sl : List (Option (Nat × Nat × Nat))} {x : Int32} {Cn : String} {T : u_T} {N : Nat} {ty : FieldType} (hd : decode (xby mi) pc = .ok (.putfield idx, 3)) (hsh : xsh k = .inl (ci, sl)) (ho : sl[b]? = some none) (hcl : classes[ci]? = some (Cn, T, N)) (hb : b < N) (hlk : Cond.fieldLink (mt mi).1.cls idx (T b).1 (T b).2.1 (T b).2.2.1 ∈ xT ∨ Cond.fieldLinkNest (mt mi).1.cls idx (T b).1 (T b).2.1 (T b).2.2.1 "MonsoonTrade" ∈ xN)
    (hfin : (T b).2.2.2 = false) (hty : parseFieldDescriptor (T b).2.2.1 = some ty) (hn : narrow ty (.int x) = .int x) (hfit : fits ty (.int x) = true) (hro : xro k = false)
    (h : V d c z mi (pc + 3) lv st (xupd S k i b x) Q) : V d c z mi pc lv (.inl x :: .inr (.inr (k, i)) :: st) S Q := by
  intro p l e R s m args below meth c0 H locs ls cells slots mc ms D B L0 L C hc hz hRc hRs hB hL hW hS hlv hst hl
  have hi : i < xcn L k := hst _ (List.mem_cons_of_mem _ List.mem_cons_self)
  have hob := xcell_o (hW.2.1 k i hi) hsh hcl
  obtain ⟨ty0, hty0, hnm⟩ := xtyp hcl
  have hts := C.2.2.2.2.2.1
  have hap := va_apart (own := Cn) hts (xlay hcl) ty0 hty0 hnm hW.1 hcl
  obtain ⟨cell, q1, q2, q3, q4⟩ := hob
  obtain ⟨hSl, hfc, kC, hkC, hkind⟩ := hW.1.1 ci _ hcl
  obtain ⟨cf, kf, fi, f, hif, hsl⟩ := hSl b hb
  have hlay := hts _ (xlay hcl _ (u_in_lay hb))
  unfold u_lay at hlay
  rw [if_neg (by rw [hfin]; decide)] at hlay
  have hst1 := (u_facts hfc hkC (u_lays hts (xlay hcl) hb) hif).1
  have h6 := u_store hfc hkC hkind hlay hif hty hn hfit
  have fin : ∀ H' : Heap, H'[L k i]? = some (cell.setSlot f.slot (.int x)) → H'.size = H.size → (∀ q, q ≠ L k i → H'[q]? = H[q]?) → W p l e R s m args below meth c0 H' (locs ++ [⟨L k i, f.slot⟩]) cells slots (MQ below (xQc D B L0 Q) args s mc ms (xA B)) (F0 m (pc + 3) ls (st.map (xcv L))) := by
    intro H' e1 e2 e3
    rw [hsl] at e1
    have hcell : xcell s D L (xupd S k i b x) k i H' := by
      unfold xcell
      rw [hsh]
      exact Or.inr ⟨_, hcl, t_OB.to (V := updV (vp_V (xfl L S k i 0 sl)) b (.int x)) ⟨_, e1, q2, q3, t_set q4 hap hb (.int x)⟩ (fun j _ => xfl_upd ho j)⟩
    exact h p l e R s m args below meth c0 H' _ ls cells slots mc ms D B L0 L C hc hz hRc hRs hB hL (hW.upd hi hro hcell e3 (xupd_off S k i b x)) (hS.put e2 e3 (hW.2.2.2.1 k i hi hro)) hlv (xtl (xtl hst)) hl
  rcases hlk with hw | hw
  · exact W.putK C.1 C.2.1 (f := f) ⟨C.2.2.2.2.1, hts _ hw, ⟨_, _, _, hif⟩, hst1⟩ (by rw [q2]; exact h6) q1 q3 (by rw [hsl]; exact k2_hasslot (q4 b hb)) rfl rfl hd fin
  · exact va_WputK C.1 C.2.1 (f := f) C.2.2.2.2.1 (va_Nw.use rfl (hW.2.2.2.2.1 _ hw)) hif hst1 (by rw [q2]; exact h6) q1 q3 (by rw [hsl]; exact k2_hasslot (q4 b hb)) rfl rfl hd fin
theorem xsh_99 {k i : Nat} {sl : List (Option (Nat × Nat × Nat))} (hi : i < xcnt k) (hsh : xsh k = .inl (99, sl)) : k = 75 ∧ sl = [some (76, 1, 0), none] := by
  have h : ∀ k, k < 77 → (match xsh k with | .inl o => Nat.beq o.1 99 | .inr _ => false) = true → k = 75 := by decide +kernel
  have e := h k (xcnt_lt hi) (by rw [hsh]; rfl)
  subst e
  cases hsh
  exact ⟨rfl, rfl⟩
theorem vs_getsf {k i b idx : Nat} {sl : List (Option (Nat × Nat × Nat))} {o : Option (Nat × Nat × Nat)} (hd : decode (xby mi) pc = .ok (.getfield idx, 3)) (hsh : xsh k = .inl (99, sl)) (ho : sl[b]? = some o) (hlk : Cond.fieldLink (mt mi).1.cls idx "java/lang/String" (bif Nat.beq b 0 then "value" else "coder") (bif Nat.beq b 0 then "[B" else "B") ∈ xT)
    (h : V d c z mi (pc + 3) lv (xfv S k i b o :: st) S Q) : V d c z mi pc lv (.inr (.inr (k, i)) :: st) S Q := by
  intro p l e R s m args below meth c0 H locs ls cells slots mc ms D B L0 L C hc hz hRc hRs hB hL hW hS hlv hst hl
  have hi : i < xcn L k := hst _ List.mem_cons_self
  have hst' : ∀ u ∈ xfv S k i b o :: st, xok L u := fun u hu => by
    rcases List.mem_cons.mp hu with e | hu
    · rw [e]; exact xfv_ok hsh ho hi
    · exact hst u (List.mem_cons_of_mem _ hu)
  obtain ⟨rfl, rfl⟩ := xsh_99 (xcn_le hi) hsh
  have hx := hW.2.2.2.2.2.1.2.2.2 i (xcn_le hi)
  match b, ho, hlk with
  | 0, ho, hlk =>
    cases ho
    obtain ⟨cf, k9, fi, f, cell, h1, h2, h3, h4, h5, h6⟩ := hx.2.1
    exact W.getf C.1 C.2.1 C.2.2.2.2.1 (C.2.2.2.2.2.1 _ hlk) h1 h2 h3 h4 (v := .ref (L 76 i)) h5 rfl rfl hd (h p l e R s m args below meth c0 H locs ls cells slots mc ms D B L0 L C hc hz hRc hRs hB hL hW hS hlv hst' hl)
  | 1, ho, hlk =>
    cases ho
    obtain ⟨cf, k9, fi, f, cell, h1, h2, h3, h4, h5, h6⟩ := hx.2.2
    exact W.getf C.1 C.2.1 C.2.2.2.2.1 (C.2.2.2.2.2.1 _ hlk) h1 h2 h3 h4 (v := .int (S.1 75 i 1)) h5 rfl rfl hd (h p l e R s m args below meth c0 H locs ls cells slots mc ms D B L0 L C hc hz hRc hRs hB hL hW hS hlv hst' hl)
  | n + 2, ho, _ => simp at ho
theorem xlt {i : Int32} {n : Nat} (h : vp_in i n) : i.toNatClampNeg < n := Nat.not_le.mp fun q => h (Or.inr q)

theorem vs_iaload {k i n rk : Nat} {j : Int32} (hd : decode (xby mi) pc = .ok (.iaload, 1)) (hsh : xsh k = .inr (.int, n, rk)) (hin : vp_in j (xlen S k i n)) (h : V d c z mi (pc + 1) lv (.inl (S.1 k i j.toNatClampNeg) :: st) S Q) : V d c z mi pc lv (.inl j :: .inr (.inr (k, i)) :: st) S Q := by
  intro p l e R s m args below meth c0 H locs ls cells slots mc ms D B L0 L C hc hz hRc hRs hB hL hW hS hlv hst hl
  have hi : i < xcn L k := hst _ (List.mem_cons_of_mem _ List.mem_cons_self)
  obtain ⟨cell, hh, ha, hu, hq1, -, hq2⟩ := xcell_r (hW.2.1 k i hi) hsh
  exact W.iald (v := .int (S.1 k i j.toNatClampNeg)) C.1 C.2.1 hh ha hu (vp_in_le hin hq1) (hq2 _ (xlt hin)) rfl rfl hd (h p l e R s m args below meth c0 H locs ls cells slots mc ms D B L0 L C hc hz hRc hRs hB hL hW hS hlv (by simpa [xok] using xtl (xtl hst)) hl)
theorem vs_baload {k i n rk : Nat} {j : Int32} (hd : decode (xby mi) pc = .ok (.baload, 1)) (hsh : xsh k = .inr (.byte, n, rk)) (hin : vp_in j (xlen S k i n)) (h : V d c z mi (pc + 1) lv (.inl (S.1 k i j.toNatClampNeg) :: st) S Q) : V d c z mi pc lv (.inl j :: .inr (.inr (k, i)) :: st) S Q := by
  intro p l e R s m args below meth c0 H locs ls cells slots mc ms D B L0 L C hc hz hRc hRs hB hL hW hS hlv hst hl
  have hi : i < xcn L k := hst _ (List.mem_cons_of_mem _ List.mem_cons_self)
  obtain ⟨cell, hh, ha, hu, hq1, -, hq2⟩ := xcell_r (hW.2.1 k i hi) hsh
  exact W.bald (v := .int (S.1 k i j.toNatClampNeg)) C.1 C.2.1 hh ha hu (vp_in_le hin hq1) (hq2 _ (xlt hin)) rfl rfl hd (h p l e R s m args below meth c0 H locs ls cells slots mc ms D B L0 L C hc hz hRc hRs hB hL hW hS hlv (by simpa [xok] using xtl (xtl hst)) hl)
theorem vs_zaload {k i n rk : Nat} {j : Int32} (hd : decode (xby mi) pc = .ok (.baload, 1)) (hsh : xsh k = .inr (.boolean, n, rk)) (hin : vp_in j (xlen S k i n)) (h : V d c z mi (pc + 1) lv (.inl (S.1 k i j.toNatClampNeg) :: st) S Q) : V d c z mi pc lv (.inl j :: .inr (.inr (k, i)) :: st) S Q := by
  intro p l e R s m args below meth c0 H locs ls cells slots mc ms D B L0 L C hc hz hRc hRs hB hL hW hS hlv hst hl
  have hi : i < xcn L k := hst _ (List.mem_cons_of_mem _ List.mem_cons_self)
  obtain ⟨cell, hh, ha, hu, hq1, -, hq2⟩ := xcell_r (hW.2.1 k i hi) hsh
  exact W.zald (v := .int (S.1 k i j.toNatClampNeg)) C.1 C.2.1 hh ha hu (vp_in_le hin hq1) (hq2 _ (xlt hin)) rfl rfl hd (h p l e R s m args below meth c0 H locs ls cells slots mc ms D B L0 L C hc hz hRc hRs hB hL hW hS hlv (by simpa [xok] using xtl (xtl hst)) hl)
theorem vs_caload {k i n rk : Nat} {j : Int32} (hd : decode (xby mi) pc = .ok (.caload, 1)) (hsh : xsh k = .inr (.char, n, rk)) (hin : vp_in j (xlen S k i n)) (h : V d c z mi (pc + 1) lv (.inl (S.1 k i j.toNatClampNeg) :: st) S Q) : V d c z mi pc lv (.inl j :: .inr (.inr (k, i)) :: st) S Q := by
  intro p l e R s m args below meth c0 H locs ls cells slots mc ms D B L0 L C hc hz hRc hRs hB hL hW hS hlv hst hl
  have hi : i < xcn L k := hst _ (List.mem_cons_of_mem _ List.mem_cons_self)
  obtain ⟨cell, hh, ha, hu, hq1, -, hq2⟩ := xcell_r (hW.2.1 k i hi) hsh
  exact W.cald (v := .int (S.1 k i j.toNatClampNeg)) C.1 C.2.1 hh ha hu (vp_in_le hin hq1) (hq2 _ (xlt hin)) rfl rfl hd (h p l e R s m args below meth c0 H locs ls cells slots mc ms D B L0 L C hc hz hRc hRs hB hL hW hS hlv (by simpa [xok] using xtl (xtl hst)) hl)
theorem vs_laload {k i n rk : Nat} {j : Int32} (hd : decode (xby mi) pc = .ok (.laload, 1)) (hsh : xsh k = .inr (.long, n, rk)) (hin : vp_in j (xlen S k i n)) (h : V d c z mi (pc + 1) lv (.inr (.inl (S.2 k i j.toNatClampNeg)) :: st) S Q) : V d c z mi pc lv (.inl j :: .inr (.inr (k, i)) :: st) S Q := by
  intro p l e R s m args below meth c0 H locs ls cells slots mc ms D B L0 L C hc hz hRc hRs hB hL hW hS hlv hst hl
  have hi : i < xcn L k := hst _ (List.mem_cons_of_mem _ List.mem_cons_self)
  obtain ⟨cell, hh, ha, hu, hq1, -, hq2⟩ := xcell_r (hW.2.1 k i hi) hsh
  exact W.lald (v := .long (S.2 k i j.toNatClampNeg)) C.1 C.2.1 hh ha hu (vp_in_le hin hq1) (hq2 _ (xlt hin)) rfl rfl hd (h p l e R s m args below meth c0 H locs ls cells slots mc ms D B L0 L C hc hz hRc hRs hB hL hW hS hlv (by simpa [xok] using xtl (xtl hst)) hl)
theorem vs_aaload {k i n rk : Nat} {Cn : String} {j : Int32} (hd : decode (xby mi) pc = .ok (.aaload, 1)) (hsh : xsh k = .inr (.object Cn, n, rk)) (hn : Nat.beq n 65536 = false) (hin : vp_in j n) (h : V d c z mi (pc + 1) lv (.inr (.inr (rk, j.toNatClampNeg)) :: st) S Q) : V d c z mi pc lv (.inl j :: .inr (.inr (k, i)) :: st) S Q := by
  intro p l e R s m args below meth c0 H locs ls cells slots mc ms D B L0 L C hc hz hRc hRs hB hL hW hS hlv hst hl
  have hi : i < xcn L k := hst _ (List.mem_cons_of_mem _ List.mem_cons_self)
  have hk := xshok_all k (xcnt_lt (xcn_le hi))
  unfold xshok at hk
  rw [hsh] at hk
  have hk := Bool.and_eq_true_iff.mp hk
  have hk2 := Bool.and_eq_true_iff.mp hk.2
  have hk3 := Bool.and_eq_true_iff.mp hk2.2
  have hro : xro k = false := by simpa using hk2.1
  obtain ⟨cA, ⟨ha, -⟩, hh⟩ := xcell_a (hW.2.1 k i hi) hsh hro
  have hx : xlen S k i n = n := by unfold xlen; rw [hn]; rfl
  rw [hx] at hh
  have hk : n ≤ xcnt rk := Nat.le_of_ble_eq_true hk.1
  exact W.aald (v := .ref (L rk j.toNatClampNeg)) C.1 C.2.1 hh (ha _ _) rfl (fun q => by cases q) (by rw [arrV_size]; exact hin) (by rw [arrV_read _ _ (xlt hin)]; rfl) rfl rfl hd (h p l e R s m args below meth c0 H locs ls cells slots mc ms D B L0 L C hc hz hRc hRs hB hL hW hS hlv (fun u hu => by rcases List.mem_cons.mp hu with e | hu; rw [e]; exact xcn_to hi hk3.1 hk3.2 (Nat.lt_of_lt_of_le (xlt hin) hk); exact hst u (List.mem_cons_of_mem _ (List.mem_cons_of_mem _ hu))) hl)
theorem vs_alen {k i n rk : Nat} {ty : FieldType} (hd : decode (xby mi) pc = .ok (.arraylength, 1)) (hsh : xsh k = .inr (ty, n, rk)) (h : V d c z mi (pc + 1) lv (.inl (Int32.ofNat (xlen S k i n)) :: st) S Q) : V d c z mi pc lv (.inr (.inr (k, i)) :: st) S Q := by
  intro p l e R s m args below meth c0 H locs ls cells slots mc ms D B L0 L C hc hz hRc hRs hB hL hW hS hlv hst hl
  have hi : i < xcn L k := hst _ List.mem_cons_self
  obtain ⟨cell, hh, ha, hu, hq1, hq2, -⟩ := xcell_r (hW.2.1 k i hi) hsh
  exact W.alen (n := Int32.ofNat (xlen S k i n)) C.1 C.2.1 hh ha hq2 rfl rfl hd (h p l e R s m args below meth c0 H locs ls cells slots mc ms D B L0 L C hc hz hRc hRs hB hL hW hS hlv (by simpa [xok] using xtl hst) hl)
theorem vs_iastore {k i n rk : Nat} {j : Int32} {x : Int32} (hd : decode (xby mi) pc = .ok (.iastore, 1)) (hsh : xsh k = .inr (.int, n, rk)) (hn : Nat.beq n 65536 = false) (hro : xro k = false) (hin : vp_in j n) (h : V d c z mi (pc + 1) lv st (xupd S k i j.toNatClampNeg (x)) Q) : V d c z mi pc lv (.inl x :: .inl j :: .inr (.inr (k, i)) :: st) S Q := by
  intro p l e R s m args below meth c0 H locs ls cells slots mc ms D B L0 L C hc hz hRc hRs hB hL hW hS hlv hst hl
  have hi : i < xcn L k := hst _ (List.mem_cons_of_mem _ (List.mem_cons_of_mem _ List.mem_cons_self))
  obtain ⟨cA, ⟨ha, hr⟩, hh⟩ := xcell_a (hW.2.1 k i hi) hsh hro
  have hx : ∀ S0 : xS, xlen S0 k i n = n := fun S0 => by unfold xlen; rw [hn]; rfl
  rw [hx] at hh
  refine W.iast C.1 C.2.1 hh (ha _ _) (fun q => by cases q) (by rw [arrV_size]; exact hin) rfl rfl hd (fun H' e1 e2 e3 => ?_)
  have hcell : xcell s D L (xupd S k i j.toNatClampNeg (x)) k i H' := by
    unfold xcell
    rw [hsh]
    refine Or.inr ⟨hro, cA, ⟨ha, hr⟩, ?_⟩
    rw [e1, arrV_store, hx]
    congr 2
    funext q
    by_cases hq : q = j.toNatClampNeg
    · subst hq; simp [updV, xel, xupd]
    · simp [updV, xel, xupd, hq]
  exact h p l e R s m args below meth c0 H' _ ls cells slots mc ms D B L0 L C hc hz hRc hRs hB hL (hW.upd hi hro hcell e3 (xupd_off S k i _ _)) (hS.put e2 e3 (hW.2.2.2.1 k i hi hro)) hlv (xtl (xtl (xtl hst))) hl
theorem vs_bastore {k i n rk : Nat} {j : Int32} {x : Int32} (hd : decode (xby mi) pc = .ok (.bastore, 1)) (hsh : xsh k = .inr (.byte, n, rk)) (hn : Nat.beq n 65536 = false) (hro : xro k = false) (hin : vp_in j n) (h : V d c z mi (pc + 1) lv st (xupd S k i j.toNatClampNeg (vp_nar .byte x)) Q) : V d c z mi pc lv (.inl x :: .inl j :: .inr (.inr (k, i)) :: st) S Q := by
  intro p l e R s m args below meth c0 H locs ls cells slots mc ms D B L0 L C hc hz hRc hRs hB hL hW hS hlv hst hl
  have hi : i < xcn L k := hst _ (List.mem_cons_of_mem _ (List.mem_cons_of_mem _ List.mem_cons_self))
  obtain ⟨cA, ⟨ha, hr⟩, hh⟩ := xcell_a (hW.2.1 k i hi) hsh hro
  have hx : ∀ S0 : xS, xlen S0 k i n = n := fun S0 => by unfold xlen; rw [hn]; rfl
  rw [hx] at hh
  refine W.bast C.1 C.2.1 hh (ha _ _) (fun q => by cases q) (by rw [arrV_size]; exact hin) rfl rfl hd (fun H' e1 e2 e3 => ?_)
  have hcell : xcell s D L (xupd S k i j.toNatClampNeg (vp_nar .byte x)) k i H' := by
    unfold xcell
    rw [hsh]
    refine Or.inr ⟨hro, cA, ⟨ha, hr⟩, ?_⟩
    rw [e1, arrV_store, hx]
    congr 2
    funext q
    by_cases hq : q = j.toNatClampNeg
    · subst hq; simp [updV, xel, xupd, vp_nar, narrow]
    · simp [updV, xel, xupd, hq]
  exact h p l e R s m args below meth c0 H' _ ls cells slots mc ms D B L0 L C hc hz hRc hRs hB hL (hW.upd hi hro hcell e3 (xupd_off S k i _ _)) (hS.put e2 e3 (hW.2.2.2.1 k i hi hro)) hlv (xtl (xtl (xtl hst))) hl
theorem vs_zastore {k i n rk : Nat} {j : Int32} {x : Int32} (hd : decode (xby mi) pc = .ok (.bastore, 1)) (hsh : xsh k = .inr (.boolean, n, rk)) (hn : Nat.beq n 65536 = false) (hro : xro k = false) (hin : vp_in j n) (h : V d c z mi (pc + 1) lv st (xupd S k i j.toNatClampNeg (vp_nar .boolean x)) Q) : V d c z mi pc lv (.inl x :: .inl j :: .inr (.inr (k, i)) :: st) S Q := by
  intro p l e R s m args below meth c0 H locs ls cells slots mc ms D B L0 L C hc hz hRc hRs hB hL hW hS hlv hst hl
  have hi : i < xcn L k := hst _ (List.mem_cons_of_mem _ (List.mem_cons_of_mem _ List.mem_cons_self))
  obtain ⟨cA, ⟨ha, hr⟩, hh⟩ := xcell_a (hW.2.1 k i hi) hsh hro
  have hx : ∀ S0 : xS, xlen S0 k i n = n := fun S0 => by unfold xlen; rw [hn]; rfl
  rw [hx] at hh
  refine W.zast C.1 C.2.1 hh (ha _ _) (fun q => by cases q) (by rw [arrV_size]; exact hin) rfl rfl hd (fun H' e1 e2 e3 => ?_)
  have hcell : xcell s D L (xupd S k i j.toNatClampNeg (vp_nar .boolean x)) k i H' := by
    unfold xcell
    rw [hsh]
    refine Or.inr ⟨hro, cA, ⟨ha, hr⟩, ?_⟩
    rw [e1, arrV_store, hx]
    congr 2
    funext q
    by_cases hq : q = j.toNatClampNeg
    · subst hq; simp [updV, xel, xupd, vp_nar, narrow]
    · simp [updV, xel, xupd, hq]
  exact h p l e R s m args below meth c0 H' _ ls cells slots mc ms D B L0 L C hc hz hRc hRs hB hL (hW.upd hi hro hcell e3 (xupd_off S k i _ _)) (hS.put e2 e3 (hW.2.2.2.1 k i hi hro)) hlv (xtl (xtl (xtl hst))) hl
theorem vs_lastore {k i n rk : Nat} {j : Int32} {x : Int64} (hd : decode (xby mi) pc = .ok (.lastore, 1)) (hsh : xsh k = .inr (.long, n, rk)) (hn : Nat.beq n 65536 = false) (hro : xro k = false) (hin : vp_in j n) (h : V d c z mi (pc + 1) lv st (xupl S k i j.toNatClampNeg (x)) Q) : V d c z mi pc lv (.inr (.inl x) :: .inl j :: .inr (.inr (k, i)) :: st) S Q := by
  intro p l e R s m args below meth c0 H locs ls cells slots mc ms D B L0 L C hc hz hRc hRs hB hL hW hS hlv hst hl
  have hi : i < xcn L k := hst _ (List.mem_cons_of_mem _ (List.mem_cons_of_mem _ List.mem_cons_self))
  obtain ⟨cA, ⟨ha, hr⟩, hh⟩ := xcell_a (hW.2.1 k i hi) hsh hro
  have hx : ∀ S0 : xS, xlen S0 k i n = n := fun S0 => by unfold xlen; rw [hn]; rfl
  rw [hx] at hh
  refine W.last C.1 C.2.1 hh (ha _ _) (fun q => by cases q) (by rw [arrV_size]; exact hin) rfl rfl hd (fun H' e1 e2 e3 => ?_)
  have hcell : xcell s D L (xupl S k i j.toNatClampNeg (x)) k i H' := by
    unfold xcell
    rw [hsh]
    refine Or.inr ⟨hro, cA, ⟨ha, hr⟩, ?_⟩
    rw [e1, arrV_store, hx]
    congr 2
    funext q
    by_cases hq : q = j.toNatClampNeg
    · subst hq; simp [updV, xel, xupl]
    · simp [updV, xel, xupl, hq]
  exact h p l e R s m args below meth c0 H' _ ls cells slots mc ms D B L0 L C hc hz hRc hRs hB hL (hW.upd hi hro hcell e3 (xupl_off S k i _ _)) (hS.put e2 e3 (hW.2.2.2.1 k i hi hro)) hlv (xtl (xtl (xtl hst))) hl
theorem vs_ireturn {x : Int32} {ty : FieldType} (hd : decode (xby mi) pc = .ok (.ireturn, 1)) (hr : xrt mi = some ty) (hn : narrow ty (.int x) = .int x) (hq : Q (some (.inl x)) S) : V d c z mi pc lv [.inl x] S Q := by
  intro p l e R s m args below meth c0 H locs ls cells slots mc ms D B L0 L C hc hz hRc hRs hB hL hW hS hlv hst hl
  refine W.widen (k := mc) (n := ms) (by omega) (by omega) ?_
  exact W.zret C.1 C.2.1 (C.2.2.1.trans hr) hn (fun t ht hWt => ⟨⟨some (.inl x), S, L, rfl, fun v hv => by cases hv; trivial, hq, hL, by rw [ht]; exact hW.warm hWt⟩, hS.F ht⟩) hS.2.2 hd C.2.2.2.2.2.2.1
theorem vs_lreturn {x : Int64} (hd : decode (xby mi) pc = .ok (.lreturn, 1)) (hr : xrt mi = some .long) (hq : Q (some (.inr (.inl x))) S) : V d c z mi pc lv [.inr (.inl x)] S Q := by
  intro p l e R s m args below meth c0 H locs ls cells slots mc ms D B L0 L C hc hz hRc hRs hB hL hW hS hlv hst hl
  refine W.widen (k := mc) (n := ms) (by omega) (by omega) ?_
  exact W.lret C.1 C.2.1 (C.2.2.1.trans hr) (fun t ht hWt => ⟨⟨some (.inr (.inl x)), S, L, rfl, fun v hv => by cases hv; trivial, hq, hL, by rw [ht]; exact hW.warm hWt⟩, hS.F ht⟩) hS.2.2 hd C.2.2.2.2.2.2.1
theorem vs_vreturn (hd : decode (xby mi) pc = .ok (.return_, 1)) (hr : xrt mi = none) (hq : Q none S) : V d c z mi pc lv [] S Q := by
  intro p l e R s m args below meth c0 H locs ls cells slots mc ms D B L0 L C hc hz hRc hRs hB hL hW hS hlv hst hl
  refine W.widen (k := mc) (n := ms) (by omega) (by omega) ?_
  exact W.vret C.1 C.2.1 (C.2.2.1.trans hr) (fun t ht hWt => ⟨⟨none, S, L, rfl, fun v hv => (by cases hv), hq, hL, by rw [ht]; exact hW.warm hWt⟩, hS.F ht⟩) hS.2.2 hd C.2.2.2.2.2.2.1
end XM
end
section
/-! calls, a method's entry, statics, Math, arraycopy -/
def xwd (i : Nat) (w : Cond) : Bool := decide (lw_tbl[i]? = some w) && goodWord w
def xwn (i : Nat) (w : Cond) : Bool := decide (lw_tbl[i]? = some w) && xnest w
theorem xwd_mem {i : Nat} {w : Cond} (h : xwd i w = true) : w ∈ xT := by
  unfold xwd at h
  rw [Bool.and_eq_true, decide_eq_true_eq] at h
  exact List.mem_filter.mpr ⟨List.mem_of_getElem? h.1, h.2⟩
theorem xwn_mem {i : Nat} {w : Cond} (h : xwn i w = true) : w ∈ xN := by
  unfold xwn at h
  rw [Bool.and_eq_true, decide_eq_true_eq] at h
  exact List.mem_filter.mpr ⟨List.mem_of_getElem? h.1, h.2⟩
abbrev xst (mi : Nat) : Bool := (mt mi).2.2.2.2.2.1
def xmB (mi : Nat) : Bool :=
  xwd (mt mi).2.2.2.2.2.2.2.1 (bif xst mi then .static (mt mi).1 else .instanceMethod (mt mi).1) && (xst mi || xwd (mt mi).2.2.2.2.2.2.2.2.1 (.selects (mt mi).1.cls (mt mi).1 (mt mi).1)) && xwd (mt mi).2.2.2.2.2.2.2.2.2.1 (.initialized (mt mi).1.cls) && plainName (mt mi).1.cls && decide ((mt mi).1.cls ≠ "java/lang/invoke/MethodHandle") && decide ((mt mi).1.cls ≠ "java/lang/invoke/VarHandle") && Nat.ble (xml mi) 21
def xmok (mi : Nat) : Prop := lw_tbl[(mt mi).2.2.2.2.2.2.1]? = some (.code (mt mi).1 (xby mi) (xml mi) (xrt mi)) ∧ xmB mi = true
set_option maxRecDepth 40000 in
theorem xmk_0 : xmok 0 := ⟨rfl, by decide +kernel⟩
set_option maxRecDepth 40000 in
theorem xmk_1 : xmok 1 := ⟨rfl, by decide +kernel⟩
set_option maxRecDepth 40000 in
theorem xmk_2 : xmok 2 := ⟨rfl, by decide +kernel⟩
set_option maxRecDepth 40000 in
theorem xmk_3 : xmok 3 := ⟨rfl, by decide +kernel⟩
set_option maxRecDepth 40000 in
theorem xmk_4 : xmok 4 := ⟨rfl, by decide +kernel⟩
set_option maxRecDepth 40000 in
theorem xmk_5 : xmok 5 := ⟨rfl, by decide +kernel⟩
set_option maxRecDepth 40000 in
theorem xmk_6 : xmok 6 := ⟨rfl, by decide +kernel⟩
set_option maxRecDepth 40000 in
theorem xmk_7 : xmok 7 := ⟨rfl, by decide +kernel⟩
set_option maxRecDepth 40000 in
theorem xmk_8 : xmok 8 := ⟨rfl, by decide +kernel⟩
set_option maxRecDepth 40000 in
theorem xmk_9 : xmok 9 := ⟨rfl, by decide +kernel⟩
set_option maxRecDepth 40000 in
theorem xmk_10 : xmok 10 := ⟨rfl, by decide +kernel⟩
set_option maxRecDepth 40000 in
theorem xmk_11 : xmok 11 := ⟨rfl, by decide +kernel⟩
set_option maxRecDepth 40000 in
theorem xmk_12 : xmok 12 := ⟨rfl, by decide +kernel⟩
set_option maxRecDepth 40000 in
theorem xmk_13 : xmok 13 := ⟨rfl, by decide +kernel⟩
set_option maxRecDepth 40000 in
theorem xmk_14 : xmok 14 := ⟨rfl, by decide +kernel⟩
set_option maxRecDepth 40000 in
theorem xmk_15 : xmok 15 := ⟨rfl, by decide +kernel⟩
set_option maxRecDepth 40000 in
theorem xmk_16 : xmok 16 := ⟨rfl, by decide +kernel⟩
set_option maxRecDepth 40000 in
theorem xmk_17 : xmok 17 := ⟨rfl, by decide +kernel⟩
set_option maxRecDepth 40000 in
theorem xmk_18 : xmok 18 := ⟨rfl, by decide +kernel⟩
set_option maxRecDepth 40000 in
theorem xmk_19 : xmok 19 := ⟨rfl, by decide +kernel⟩
set_option maxRecDepth 40000 in
theorem xmk_20 : xmok 20 := ⟨rfl, by decide +kernel⟩
set_option maxRecDepth 40000 in
theorem xmk_21 : xmok 21 := ⟨rfl, by decide +kernel⟩
set_option maxRecDepth 40000 in
theorem xmk_22 : xmok 22 := ⟨rfl, by decide +kernel⟩
set_option maxRecDepth 40000 in
theorem xmk_23 : xmok 23 := ⟨rfl, by decide +kernel⟩
set_option maxRecDepth 40000 in
theorem xmk_24 : xmok 24 := ⟨rfl, by decide +kernel⟩
set_option maxRecDepth 40000 in
theorem xmk_25 : xmok 25 := ⟨rfl, by decide +kernel⟩
set_option maxRecDepth 40000 in
theorem xmk_26 : xmok 26 := ⟨rfl, by decide +kernel⟩
set_option maxRecDepth 40000 in
theorem xmk_27 : xmok 27 := ⟨rfl, by decide +kernel⟩
set_option maxRecDepth 40000 in
theorem xmk_28 : xmok 28 := ⟨rfl, by decide +kernel⟩
set_option maxRecDepth 40000 in
theorem xmk_29 : xmok 29 := ⟨rfl, by decide +kernel⟩
set_option maxRecDepth 40000 in
theorem xmk_30 : xmok 30 := ⟨rfl, by decide +kernel⟩
set_option maxRecDepth 40000 in
theorem xmk_31 : xmok 31 := ⟨rfl, by decide +kernel⟩
set_option maxRecDepth 40000 in
theorem xmk_32 : xmok 32 := ⟨rfl, by decide +kernel⟩
set_option maxRecDepth 40000 in
theorem xmk_33 : xmok 33 := ⟨rfl, by decide +kernel⟩
set_option maxRecDepth 40000 in
theorem xmk_34 : xmok 34 := ⟨rfl, by decide +kernel⟩
set_option maxRecDepth 40000 in
theorem xmk_35 : xmok 35 := ⟨rfl, by decide +kernel⟩
set_option maxRecDepth 40000 in
theorem xmk_36 : xmok 36 := ⟨rfl, by decide +kernel⟩
set_option maxRecDepth 40000 in
theorem xmk_37 : xmok 37 := ⟨rfl, by decide +kernel⟩
set_option maxRecDepth 40000 in
theorem xmk_38 : xmok 38 := ⟨rfl, by decide +kernel⟩
set_option maxRecDepth 40000 in
theorem xmk_39 : xmok 39 := ⟨rfl, by decide +kernel⟩
set_option maxRecDepth 40000 in
theorem xmk_40 : xmok 40 := ⟨rfl, by decide +kernel⟩
set_option maxRecDepth 40000 in
theorem xmk_41 : xmok 41 := ⟨rfl, by decide +kernel⟩
set_option maxRecDepth 40000 in
theorem xmk_42 : xmok 42 := ⟨rfl, by decide +kernel⟩
set_option maxRecDepth 40000 in
theorem xmk_43 : xmok 43 := ⟨rfl, by decide +kernel⟩
set_option maxRecDepth 40000 in
theorem xmk_44 : xmok 44 := ⟨rfl, by decide +kernel⟩
set_option maxRecDepth 40000 in
theorem xmk_45 : xmok 45 := ⟨rfl, by decide +kernel⟩
set_option maxRecDepth 40000 in
theorem xmk_46 : xmok 46 := ⟨rfl, by decide +kernel⟩
set_option maxRecDepth 40000 in
theorem xmk_47 : xmok 47 := ⟨rfl, by decide +kernel⟩
set_option maxRecDepth 40000 in
theorem xmk_48 : xmok 48 := ⟨rfl, by decide +kernel⟩
set_option maxRecDepth 40000 in
theorem xmk_49 : xmok 49 := ⟨rfl, by decide +kernel⟩
set_option maxRecDepth 40000 in
theorem xmk_50 : xmok 50 := ⟨rfl, by decide +kernel⟩
set_option maxRecDepth 40000 in
theorem xmk_51 : xmok 51 := ⟨rfl, by decide +kernel⟩
set_option maxRecDepth 40000 in
theorem xmk_52 : xmok 52 := ⟨rfl, by decide +kernel⟩
set_option maxRecDepth 40000 in
theorem xmk_53 : xmok 53 := ⟨rfl, by decide +kernel⟩
set_option maxRecDepth 40000 in
theorem xmk_54 : xmok 54 := ⟨rfl, by decide +kernel⟩
set_option maxRecDepth 40000 in
theorem xmk_55 : xmok 55 := ⟨rfl, by decide +kernel⟩
set_option maxRecDepth 40000 in
theorem xmk_56 : xmok 56 := ⟨rfl, by decide +kernel⟩
set_option maxRecDepth 40000 in
theorem xmk_57 : xmok 57 := ⟨rfl, by decide +kernel⟩
set_option maxRecDepth 40000 in
theorem xmk_58 : xmok 58 := ⟨rfl, by decide +kernel⟩
set_option maxRecDepth 40000 in
theorem xmk_59 : xmok 59 := ⟨rfl, by decide +kernel⟩
set_option maxRecDepth 40000 in
theorem xmk_60 : xmok 60 := ⟨rfl, by decide +kernel⟩
set_option maxRecDepth 40000 in
theorem xmk_61 : xmok 61 := ⟨rfl, by decide +kernel⟩
set_option maxRecDepth 40000 in
theorem xmk_62 : xmok 62 := ⟨rfl, by decide +kernel⟩
set_option maxRecDepth 40000 in
theorem xmk_63 : xmok 63 := ⟨rfl, by decide +kernel⟩
set_option maxRecDepth 40000 in
theorem xmk_64 : xmok 64 := ⟨rfl, by decide +kernel⟩
set_option maxRecDepth 40000 in
theorem xmk_65 : xmok 65 := ⟨rfl, by decide +kernel⟩
set_option maxRecDepth 40000 in
theorem xmk_66 : xmok 66 := ⟨rfl, by decide +kernel⟩
set_option maxRecDepth 40000 in
theorem xmk_67 : xmok 67 := ⟨rfl, by decide +kernel⟩
set_option maxRecDepth 40000 in
theorem xmk_68 : xmok 68 := ⟨rfl, by decide +kernel⟩
set_option maxRecDepth 40000 in
theorem xmk_69 : xmok 69 := ⟨rfl, by decide +kernel⟩
set_option maxRecDepth 40000 in
theorem xmk_70 : xmok 70 := ⟨rfl, by decide +kernel⟩
set_option maxRecDepth 40000 in
theorem xmk_71 : xmok 71 := ⟨rfl, by decide +kernel⟩
set_option maxRecDepth 40000 in
theorem xmk_72 : xmok 72 := ⟨rfl, by decide +kernel⟩
set_option maxRecDepth 40000 in
theorem xmk_73 : xmok 73 := ⟨rfl, by decide +kernel⟩
set_option maxRecDepth 40000 in
theorem xmk_74 : xmok 74 := ⟨rfl, by decide +kernel⟩
set_option maxRecDepth 40000 in
theorem xmk_75 : xmok 75 := ⟨rfl, by decide +kernel⟩
set_option maxRecDepth 40000 in
theorem xmk_76 : xmok 76 := ⟨rfl, by decide +kernel⟩
set_option maxRecDepth 40000 in
theorem xmk_77 : xmok 77 := ⟨rfl, by decide +kernel⟩
set_option maxRecDepth 40000 in
theorem xmk_78 : xmok 78 := ⟨rfl, by decide +kernel⟩
set_option maxRecDepth 40000 in
theorem xmk_79 : xmok 79 := ⟨rfl, by decide +kernel⟩
set_option maxRecDepth 40000 in
theorem xmk_80 : xmok 80 := ⟨rfl, by decide +kernel⟩
set_option maxRecDepth 40000 in
theorem xmk_81 : xmok 81 := ⟨rfl, by decide +kernel⟩
set_option maxRecDepth 40000 in
theorem xmk_82 : xmok 82 := ⟨rfl, by decide +kernel⟩
set_option maxRecDepth 40000 in
theorem xmk_83 : xmok 83 := ⟨rfl, by decide +kernel⟩
set_option maxRecDepth 40000 in
theorem xmk_84 : xmok 84 := ⟨rfl, by decide +kernel⟩
set_option maxRecDepth 40000 in
theorem xmk_85 : xmok 85 := ⟨rfl, by decide +kernel⟩
set_option maxRecDepth 40000 in
theorem xmk_86 : xmok 86 := ⟨rfl, by decide +kernel⟩
set_option maxRecDepth 40000 in
theorem xmk_87 : xmok 87 := ⟨rfl, by decide +kernel⟩
set_option maxRecDepth 40000 in
theorem xmk_88 : xmok 88 := ⟨rfl, by decide +kernel⟩
set_option maxRecDepth 40000 in
theorem xmk_89 : xmok 89 := ⟨rfl, by decide +kernel⟩
set_option maxRecDepth 40000 in
theorem xmk_90 : xmok 90 := ⟨rfl, by decide +kernel⟩
set_option maxRecDepth 40000 in
theorem xmk_91 : xmok 91 := ⟨rfl, by decide +kernel⟩
set_option maxRecDepth 40000 in
theorem xmk_92 : xmok 92 := ⟨rfl, by decide +kernel⟩
set_option maxRecDepth 40000 in
theorem xmk_93 : xmok 93 := ⟨rfl, by decide +kernel⟩
set_option maxRecDepth 40000 in
theorem xmk_94 : xmok 94 := ⟨rfl, by decide +kernel⟩
set_option maxRecDepth 40000 in
theorem xmk_95 : xmok 95 := ⟨rfl, by decide +kernel⟩
set_option maxRecDepth 40000 in
theorem xmk_96 : xmok 96 := ⟨rfl, by decide +kernel⟩
set_option maxRecDepth 40000 in
theorem xmk_97 : xmok 97 := ⟨rfl, by decide +kernel⟩
set_option maxRecDepth 40000 in
theorem xmk_98 : xmok 98 := ⟨rfl, by decide +kernel⟩
set_option maxRecDepth 40000 in
theorem xmk_99 : xmok 99 := ⟨rfl, by decide +kernel⟩
set_option maxRecDepth 40000 in
theorem xmk_100 : xmok 100 := ⟨rfl, by decide +kernel⟩
set_option maxRecDepth 40000 in
theorem xmk_101 : xmok 101 := ⟨rfl, by decide +kernel⟩
set_option maxRecDepth 40000 in
theorem xmk_102 : xmok 102 := ⟨rfl, by decide +kernel⟩
set_option maxRecDepth 40000 in
theorem xmk_103 : xmok 103 := ⟨rfl, by decide +kernel⟩
set_option maxRecDepth 40000 in
theorem xmk_104 : xmok 104 := ⟨rfl, by decide +kernel⟩
set_option maxRecDepth 40000 in
theorem xmk_105 : xmok 105 := ⟨rfl, by decide +kernel⟩
set_option maxRecDepth 40000 in
theorem xmk_106 : xmok 106 := ⟨rfl, by decide +kernel⟩
set_option maxRecDepth 40000 in
theorem xmk_107 : xmok 107 := ⟨rfl, by decide +kernel⟩
set_option maxRecDepth 40000 in
theorem xmk_108 : xmok 108 := ⟨rfl, by decide +kernel⟩
set_option maxRecDepth 40000 in
theorem xmk_109 : xmok 109 := ⟨rfl, by decide +kernel⟩
set_option maxRecDepth 40000 in
theorem xmk_110 : xmok 110 := ⟨rfl, by decide +kernel⟩
set_option maxRecDepth 40000 in
theorem xmk_111 : xmok 111 := ⟨rfl, by decide +kernel⟩
set_option maxRecDepth 40000 in
theorem xmk_112 : xmok 112 := ⟨rfl, by decide +kernel⟩
set_option maxRecDepth 40000 in
theorem xmk_113 : xmok 113 := ⟨rfl, by decide +kernel⟩
set_option maxRecDepth 40000 in
theorem xmk_114 : xmok 114 := ⟨rfl, by decide +kernel⟩
set_option maxRecDepth 40000 in
theorem xmk_115 : xmok 115 := ⟨rfl, by decide +kernel⟩
set_option maxRecDepth 40000 in
theorem xmk_116 : xmok 116 := ⟨rfl, by decide +kernel⟩
set_option maxRecDepth 40000 in
theorem xmk_117 : xmok 117 := ⟨rfl, by decide +kernel⟩
set_option maxRecDepth 40000 in
theorem xmk_118 : xmok 118 := ⟨rfl, by decide +kernel⟩
set_option maxRecDepth 40000 in
theorem xmk_119 : xmok 119 := ⟨rfl, by decide +kernel⟩
set_option maxRecDepth 40000 in
theorem xmk_120 : xmok 120 := ⟨rfl, by decide +kernel⟩
set_option maxRecDepth 40000 in
theorem xmk_121 : xmok 121 := ⟨rfl, by decide +kernel⟩
set_option maxRecDepth 40000 in
theorem xmk_122 : xmok 122 := ⟨rfl, by decide +kernel⟩
set_option maxRecDepth 40000 in
theorem xmk_123 : xmok 123 := ⟨rfl, by decide +kernel⟩
set_option maxRecDepth 40000 in
theorem xmk_124 : xmok 124 := ⟨rfl, by decide +kernel⟩
set_option maxRecDepth 40000 in
theorem xmk_125 : xmok 125 := ⟨rfl, by decide +kernel⟩
set_option maxRecDepth 40000 in
theorem xmk_126 : xmok 126 := ⟨rfl, by decide +kernel⟩
set_option maxRecDepth 40000 in
theorem xmk_127 : xmok 127 := ⟨rfl, by decide +kernel⟩
set_option maxRecDepth 40000 in
theorem xmk_128 : xmok 128 := ⟨rfl, by decide +kernel⟩
set_option maxRecDepth 40000 in
theorem xmk_129 : xmok 129 := ⟨rfl, by decide +kernel⟩
set_option maxRecDepth 40000 in
theorem xmk_130 : xmok 130 := ⟨rfl, by decide +kernel⟩
set_option maxRecDepth 40000 in
theorem xmk_131 : xmok 131 := ⟨rfl, by decide +kernel⟩
set_option maxRecDepth 40000 in
theorem xmk_132 : xmok 132 := ⟨rfl, by decide +kernel⟩
set_option maxRecDepth 40000 in
theorem xmk_133 : xmok 133 := ⟨rfl, by decide +kernel⟩
set_option maxRecDepth 40000 in
theorem xmk_134 : xmok 134 := ⟨rfl, by decide +kernel⟩
set_option maxRecDepth 40000 in
theorem xmk_135 : xmok 135 := ⟨rfl, by decide +kernel⟩
set_option maxRecDepth 40000 in
theorem xmk_136 : xmok 136 := ⟨rfl, by decide +kernel⟩
set_option maxRecDepth 40000 in
theorem xmk_137 : xmok 137 := ⟨rfl, by decide +kernel⟩
set_option maxRecDepth 40000 in
theorem xmk_138 : xmok 138 := ⟨rfl, by decide +kernel⟩
set_option maxRecDepth 40000 in
theorem xmk_139 : xmok 139 := ⟨rfl, by decide +kernel⟩
set_option maxRecDepth 40000 in
theorem xmk_140 : xmok 140 := ⟨rfl, by decide +kernel⟩
set_option maxRecDepth 40000 in
theorem xmk_141 : xmok 141 := ⟨rfl, by decide +kernel⟩
set_option maxRecDepth 40000 in
theorem xmk_142 : xmok 142 := ⟨rfl, by decide +kernel⟩
set_option maxRecDepth 40000 in
theorem xmk_143 : xmok 143 := ⟨rfl, by decide +kernel⟩
set_option maxRecDepth 40000 in
theorem xmk_144 : xmok 144 := ⟨rfl, by decide +kernel⟩
set_option maxRecDepth 40000 in
theorem xmk_145 : xmok 145 := ⟨rfl, by decide +kernel⟩
set_option maxRecDepth 40000 in
theorem xmk_146 : xmok 146 := ⟨rfl, by decide +kernel⟩
set_option maxRecDepth 40000 in
theorem xmk_147 : xmok 147 := ⟨rfl, by decide +kernel⟩
set_option maxRecDepth 40000 in
theorem xmk_148 : xmok 148 := ⟨rfl, by decide +kernel⟩
set_option maxRecDepth 40000 in
theorem xmk_149 : xmok 149 := ⟨rfl, by decide +kernel⟩
set_option maxRecDepth 40000 in
theorem xmk_150 : xmok 150 := ⟨rfl, by decide +kernel⟩
set_option maxRecDepth 40000 in
theorem xmk_151 : xmok 151 := ⟨rfl, by decide +kernel⟩
set_option maxRecDepth 40000 in
theorem xmk_152 : xmok 152 := ⟨rfl, by decide +kernel⟩
set_option maxRecDepth 40000 in
theorem xmk_153 : xmok 153 := ⟨rfl, by decide +kernel⟩
set_option maxRecDepth 40000 in
theorem xmk_154 : xmok 154 := ⟨rfl, by decide +kernel⟩
set_option maxRecDepth 40000 in
theorem xmk_155 : xmok 155 := ⟨rfl, by decide +kernel⟩
set_option maxRecDepth 40000 in
theorem xmk_156 : xmok 156 := ⟨rfl, by decide +kernel⟩
set_option maxRecDepth 40000 in
theorem xmk_157 : xmok 157 := ⟨rfl, by decide +kernel⟩
set_option maxRecDepth 40000 in
theorem xmk_158 : xmok 158 := ⟨rfl, by decide +kernel⟩
set_option maxRecDepth 40000 in
theorem xmk_159 : xmok 159 := ⟨rfl, by decide +kernel⟩
set_option maxRecDepth 40000 in
theorem xmk_160 : xmok 160 := ⟨rfl, by decide +kernel⟩
set_option maxRecDepth 40000 in
theorem xmk_161 : xmok 161 := ⟨rfl, by decide +kernel⟩
set_option maxRecDepth 40000 in
theorem xmk_162 : xmok 162 := ⟨rfl, by decide +kernel⟩
set_option maxRecDepth 40000 in
theorem xmk_163 : xmok 163 := ⟨rfl, by decide +kernel⟩
set_option maxRecDepth 40000 in
theorem xmk_164 : xmok 164 := ⟨rfl, by decide +kernel⟩
set_option maxRecDepth 40000 in
theorem xmk_165 : xmok 165 := ⟨rfl, by decide +kernel⟩
set_option maxRecDepth 40000 in
theorem xmk_166 : xmok 166 := ⟨rfl, by decide +kernel⟩
set_option maxRecDepth 40000 in
theorem xmk_167 : xmok 167 := ⟨rfl, by decide +kernel⟩
set_option maxRecDepth 40000 in
theorem xmk_168 : xmok 168 := ⟨rfl, by decide +kernel⟩
set_option maxRecDepth 40000 in
theorem xmk_169 : xmok 169 := ⟨rfl, by decide +kernel⟩
set_option maxRecDepth 40000 in
theorem xmk_170 : xmok 170 := ⟨rfl, by decide +kernel⟩
set_option maxRecDepth 40000 in
theorem xmk_171 : xmok 171 := ⟨rfl, by decide +kernel⟩
set_option maxRecDepth 40000 in
theorem xmk_172 : xmok 172 := ⟨rfl, by decide +kernel⟩
set_option maxRecDepth 40000 in
theorem xmk_173 : xmok 173 := ⟨rfl, by decide +kernel⟩
set_option maxRecDepth 40000 in
theorem xmk_174 : xmok 174 := ⟨rfl, by decide +kernel⟩
set_option maxRecDepth 40000 in
theorem xmk_175 : xmok 175 := ⟨rfl, by decide +kernel⟩
set_option maxRecDepth 40000 in
theorem xmk_176 : xmok 176 := ⟨rfl, by decide +kernel⟩
set_option maxRecDepth 40000 in
theorem xmk_177 : xmok 177 := ⟨rfl, by decide +kernel⟩
set_option maxRecDepth 40000 in
theorem xmk_178 : xmok 178 := ⟨rfl, by decide +kernel⟩
set_option maxRecDepth 40000 in
theorem xmk_179 : xmok 179 := ⟨rfl, by decide +kernel⟩
set_option maxRecDepth 40000 in
theorem xmk_180 : xmok 180 := ⟨rfl, by decide +kernel⟩
set_option maxRecDepth 40000 in
theorem xmk_181 : xmok 181 := ⟨rfl, by decide +kernel⟩
set_option maxRecDepth 40000 in
theorem xmk_182 : xmok 182 := ⟨rfl, by decide +kernel⟩
set_option maxRecDepth 40000 in
theorem xmk_183 : xmok 183 := ⟨rfl, by decide +kernel⟩
set_option maxRecDepth 40000 in
theorem xmk_184 : xmok 184 := ⟨rfl, by decide +kernel⟩
set_option maxRecDepth 40000 in
theorem xmk_185 : xmok 185 := ⟨rfl, by decide +kernel⟩
set_option maxRecDepth 40000 in
theorem xmk_186 : xmok 186 := ⟨rfl, by decide +kernel⟩
set_option maxRecDepth 40000 in
theorem xmk_187 : xmok 187 := ⟨rfl, by decide +kernel⟩
set_option maxRecDepth 40000 in
theorem xmk_188 : xmok 188 := ⟨rfl, by decide +kernel⟩
set_option maxRecDepth 40000 in
theorem xmk_189 : xmok 189 := ⟨rfl, by decide +kernel⟩
set_option maxRecDepth 40000 in
theorem xmk_190 : xmok 190 := ⟨rfl, by decide +kernel⟩
set_option maxRecDepth 40000 in
theorem xmk_191 : xmok 191 := ⟨rfl, by decide +kernel⟩
set_option maxRecDepth 40000 in
theorem xmk_192 : xmok 192 := ⟨rfl, by decide +kernel⟩
set_option maxRecDepth 40000 in
theorem xmk_193 : xmok 193 := ⟨rfl, by decide +kernel⟩
set_option maxRecDepth 40000 in
theorem xmk_194 : xmok 194 := ⟨rfl, by decide +kernel⟩
set_option maxRecDepth 40000 in
theorem xmk_195 : xmok 195 := ⟨rfl, by decide +kernel⟩
set_option maxRecDepth 40000 in
theorem xmk_196 : xmok 196 := ⟨rfl, by decide +kernel⟩
set_option maxRecDepth 40000 in
theorem xmk_197 : xmok 197 := ⟨rfl, by decide +kernel⟩
set_option maxRecDepth 40000 in
theorem xmk_198 : xmok 198 := ⟨rfl, by decide +kernel⟩
set_option maxRecDepth 40000 in
theorem xmk_199 : xmok 199 := ⟨rfl, by decide +kernel⟩
set_option maxRecDepth 40000 in
theorem xmk_200 : xmok 200 := ⟨rfl, by decide +kernel⟩
theorem xmok_all {mi : Nat} (h : mi < 201) : xmok mi := by
  rcases Nat.lt_or_ge mi 100 with h1 | h1
  · rcases Nat.lt_or_ge mi 50 with h2 | h2
    · rcases Nat.lt_or_ge mi 25 with h3 | h3
      · rcases Nat.lt_or_ge mi 12 with h4 | h4
        · rcases Nat.lt_or_ge mi 6 with h5 | h5
          · rcases Nat.lt_or_ge mi 3 with h6 | h6
            · rcases Nat.lt_or_ge mi 1 with h7 | h7
              · obtain rfl : mi = 0 := by omega
                exact xmk_0
              · rcases Nat.lt_or_ge mi 2 with h8 | h8
                · obtain rfl : mi = 1 := by omega
                  exact xmk_1
                · obtain rfl : mi = 2 := by omega
                  exact xmk_2
            · rcases Nat.lt_or_ge mi 4 with h7 | h7
              · obtain rfl : mi = 3 := by omega
                exact xmk_3
              · rcases Nat.lt_or_ge mi 5 with h8 | h8
                · obtain rfl : mi = 4 := by omega
                  exact xmk_4
                · obtain rfl : mi = 5 := by omega
                  exact xmk_5
          · rcases Nat.lt_or_ge mi 9 with h6 | h6
            · rcases Nat.lt_or_ge mi 7 with h7 | h7
              · obtain rfl : mi = 6 := by omega
                exact xmk_6
              · rcases Nat.lt_or_ge mi 8 with h8 | h8
                · obtain rfl : mi = 7 := by omega
                  exact xmk_7
                · obtain rfl : mi = 8 := by omega
                  exact xmk_8
            · rcases Nat.lt_or_ge mi 10 with h7 | h7
              · obtain rfl : mi = 9 := by omega
                exact xmk_9
              · rcases Nat.lt_or_ge mi 11 with h8 | h8
                · obtain rfl : mi = 10 := by omega
                  exact xmk_10
                · obtain rfl : mi = 11 := by omega
                  exact xmk_11
        · rcases Nat.lt_or_ge mi 18 with h5 | h5
          · rcases Nat.lt_or_ge mi 15 with h6 | h6
            · rcases Nat.lt_or_ge mi 13 with h7 | h7
              · obtain rfl : mi = 12 := by omega
                exact xmk_12
              · rcases Nat.lt_or_ge mi 14 with h8 | h8
                · obtain rfl : mi = 13 := by omega
                  exact xmk_13
                · obtain rfl : mi = 14 := by omega
                  exact xmk_14
            · rcases Nat.lt_or_ge mi 16 with h7 | h7
              · obtain rfl : mi = 15 := by omega
                exact xmk_15
              · rcases Nat.lt_or_ge mi 17 with h8 | h8
                · obtain rfl : mi = 16 := by omega
                  exact xmk_16
                · obtain rfl : mi = 17 := by omega
                  exact xmk_17
          · rcases Nat.lt_or_ge mi 21 with h6 | h6
            · rcases Nat.lt_or_ge mi 19 with h7 | h7
              · obtain rfl : mi = 18 := by omega
                exact xmk_18
              · rcases Nat.lt_or_ge mi 20 with h8 | h8
                · obtain rfl : mi = 19 := by omega
                  exact xmk_19
                · obtain rfl : mi = 20 := by omega
                  exact xmk_20
            · rcases Nat.lt_or_ge mi 23 with h7 | h7
              · rcases Nat.lt_or_ge mi 22 with h8 | h8
                · obtain rfl : mi = 21 := by omega
                  exact xmk_21
                · obtain rfl : mi = 22 := by omega
                  exact xmk_22
              · rcases Nat.lt_or_ge mi 24 with h8 | h8
                · obtain rfl : mi = 23 := by omega
                  exact xmk_23
                · obtain rfl : mi = 24 := by omega
                  exact xmk_24
      · rcases Nat.lt_or_ge mi 37 with h4 | h4
        · rcases Nat.lt_or_ge mi 31 with h5 | h5
          · rcases Nat.lt_or_ge mi 28 with h6 | h6
            · rcases Nat.lt_or_ge mi 26 with h7 | h7
              · obtain rfl : mi = 25 := by omega
                exact xmk_25
              · rcases Nat.lt_or_ge mi 27 with h8 | h8
                · obtain rfl : mi = 26 := by omega
                  exact xmk_26
                · obtain rfl : mi = 27 := by omega
                  exact xmk_27
            · rcases Nat.lt_or_ge mi 29 with h7 | h7
              · obtain rfl : mi = 28 := by omega
                exact xmk_28
              · rcases Nat.lt_or_ge mi 30 with h8 | h8
                · obtain rfl : mi = 29 := by omega
                  exact xmk_29
                · obtain rfl : mi = 30 := by omega
                  exact xmk_30
          · rcases Nat.lt_or_ge mi 34 with h6 | h6
            · rcases Nat.lt_or_ge mi 32 with h7 | h7
              · obtain rfl : mi = 31 := by omega
                exact xmk_31
              · rcases Nat.lt_or_ge mi 33 with h8 | h8
                · obtain rfl : mi = 32 := by omega
                  exact xmk_32
                · obtain rfl : mi = 33 := by omega
                  exact xmk_33
            · rcases Nat.lt_or_ge mi 35 with h7 | h7
              · obtain rfl : mi = 34 := by omega
                exact xmk_34
              · rcases Nat.lt_or_ge mi 36 with h8 | h8
                · obtain rfl : mi = 35 := by omega
                  exact xmk_35
                · obtain rfl : mi = 36 := by omega
                  exact xmk_36
        · rcases Nat.lt_or_ge mi 43 with h5 | h5
          · rcases Nat.lt_or_ge mi 40 with h6 | h6
            · rcases Nat.lt_or_ge mi 38 with h7 | h7
              · obtain rfl : mi = 37 := by omega
                exact xmk_37
              · rcases Nat.lt_or_ge mi 39 with h8 | h8
                · obtain rfl : mi = 38 := by omega
                  exact xmk_38
                · obtain rfl : mi = 39 := by omega
                  exact xmk_39
            · rcases Nat.lt_or_ge mi 41 with h7 | h7
              · obtain rfl : mi = 40 := by omega
                exact xmk_40
              · rcases Nat.lt_or_ge mi 42 with h8 | h8
                · obtain rfl : mi = 41 := by omega
                  exact xmk_41
                · obtain rfl : mi = 42 := by omega
                  exact xmk_42
          · rcases Nat.lt_or_ge mi 46 with h6 | h6
            · rcases Nat.lt_or_ge mi 44 with h7 | h7
              · obtain rfl : mi = 43 := by omega
                exact xmk_43
              · rcases Nat.lt_or_ge mi 45 with h8 | h8
                · obtain rfl : mi = 44 := by omega
                  exact xmk_44
                · obtain rfl : mi = 45 := by omega
                  exact xmk_45
            · rcases Nat.lt_or_ge mi 48 with h7 | h7
              · rcases Nat.lt_or_ge mi 47 with h8 | h8
                · obtain rfl : mi = 46 := by omega
                  exact xmk_46
                · obtain rfl : mi = 47 := by omega
                  exact xmk_47
              · rcases Nat.lt_or_ge mi 49 with h8 | h8
                · obtain rfl : mi = 48 := by omega
                  exact xmk_48
                · obtain rfl : mi = 49 := by omega
                  exact xmk_49
    · rcases Nat.lt_or_ge mi 75 with h3 | h3
      · rcases Nat.lt_or_ge mi 62 with h4 | h4
        · rcases Nat.lt_or_ge mi 56 with h5 | h5
          · rcases Nat.lt_or_ge mi 53 with h6 | h6
            · rcases Nat.lt_or_ge mi 51 with h7 | h7
              · obtain rfl : mi = 50 := by omega
                exact xmk_50
              · rcases Nat.lt_or_ge mi 52 with h8 | h8
                · obtain rfl : mi = 51 := by omega
                  exact xmk_51
                · obtain rfl : mi = 52 := by omega
                  exact xmk_52
            · rcases Nat.lt_or_ge mi 54 with h7 | h7
              · obtain rfl : mi = 53 := by omega
                exact xmk_53
              · rcases Nat.lt_or_ge mi 55 with h8 | h8
                · obtain rfl : mi = 54 := by omega
                  exact xmk_54
                · obtain rfl : mi = 55 := by omega
                  exact xmk_55
          · rcases Nat.lt_or_ge mi 59 with h6 | h6
            · rcases Nat.lt_or_ge mi 57 with h7 | h7
              · obtain rfl : mi = 56 := by omega
                exact xmk_56
              · rcases Nat.lt_or_ge mi 58 with h8 | h8
                · obtain rfl : mi = 57 := by omega
                  exact xmk_57
                · obtain rfl : mi = 58 := by omega
                  exact xmk_58
            · rcases Nat.lt_or_ge mi 60 with h7 | h7
              · obtain rfl : mi = 59 := by omega
                exact xmk_59
              · rcases Nat.lt_or_ge mi 61 with h8 | h8
                · obtain rfl : mi = 60 := by omega
                  exact xmk_60
                · obtain rfl : mi = 61 := by omega
                  exact xmk_61
        · rcases Nat.lt_or_ge mi 68 with h5 | h5
          · rcases Nat.lt_or_ge mi 65 with h6 | h6
            · rcases Nat.lt_or_ge mi 63 with h7 | h7
              · obtain rfl : mi = 62 := by omega
                exact xmk_62
              · rcases Nat.lt_or_ge mi 64 with h8 | h8
                · obtain rfl : mi = 63 := by omega
                  exact xmk_63
                · obtain rfl : mi = 64 := by omega
                  exact xmk_64
            · rcases Nat.lt_or_ge mi 66 with h7 | h7
              · obtain rfl : mi = 65 := by omega
                exact xmk_65
              · rcases Nat.lt_or_ge mi 67 with h8 | h8
                · obtain rfl : mi = 66 := by omega
                  exact xmk_66
                · obtain rfl : mi = 67 := by omega
                  exact xmk_67
          · rcases Nat.lt_or_ge mi 71 with h6 | h6
            · rcases Nat.lt_or_ge mi 69 with h7 | h7
              · obtain rfl : mi = 68 := by omega
                exact xmk_68
              · rcases Nat.lt_or_ge mi 70 with h8 | h8
                · obtain rfl : mi = 69 := by omega
                  exact xmk_69
                · obtain rfl : mi = 70 := by omega
                  exact xmk_70
            · rcases Nat.lt_or_ge mi 73 with h7 | h7
              · rcases Nat.lt_or_ge mi 72 with h8 | h8
                · obtain rfl : mi = 71 := by omega
                  exact xmk_71
                · obtain rfl : mi = 72 := by omega
                  exact xmk_72
              · rcases Nat.lt_or_ge mi 74 with h8 | h8
                · obtain rfl : mi = 73 := by omega
                  exact xmk_73
                · obtain rfl : mi = 74 := by omega
                  exact xmk_74
      · rcases Nat.lt_or_ge mi 87 with h4 | h4
        · rcases Nat.lt_or_ge mi 81 with h5 | h5
          · rcases Nat.lt_or_ge mi 78 with h6 | h6
            · rcases Nat.lt_or_ge mi 76 with h7 | h7
              · obtain rfl : mi = 75 := by omega
                exact xmk_75
              · rcases Nat.lt_or_ge mi 77 with h8 | h8
                · obtain rfl : mi = 76 := by omega
                  exact xmk_76
                · obtain rfl : mi = 77 := by omega
                  exact xmk_77
            · rcases Nat.lt_or_ge mi 79 with h7 | h7
              · obtain rfl : mi = 78 := by omega
                exact xmk_78
              · rcases Nat.lt_or_ge mi 80 with h8 | h8
                · obtain rfl : mi = 79 := by omega
                  exact xmk_79
                · obtain rfl : mi = 80 := by omega
                  exact xmk_80
          · rcases Nat.lt_or_ge mi 84 with h6 | h6
            · rcases Nat.lt_or_ge mi 82 with h7 | h7
              · obtain rfl : mi = 81 := by omega
                exact xmk_81
              · rcases Nat.lt_or_ge mi 83 with h8 | h8
                · obtain rfl : mi = 82 := by omega
                  exact xmk_82
                · obtain rfl : mi = 83 := by omega
                  exact xmk_83
            · rcases Nat.lt_or_ge mi 85 with h7 | h7
              · obtain rfl : mi = 84 := by omega
                exact xmk_84
              · rcases Nat.lt_or_ge mi 86 with h8 | h8
                · obtain rfl : mi = 85 := by omega
                  exact xmk_85
                · obtain rfl : mi = 86 := by omega
                  exact xmk_86
        · rcases Nat.lt_or_ge mi 93 with h5 | h5
          · rcases Nat.lt_or_ge mi 90 with h6 | h6
            · rcases Nat.lt_or_ge mi 88 with h7 | h7
              · obtain rfl : mi = 87 := by omega
                exact xmk_87
              · rcases Nat.lt_or_ge mi 89 with h8 | h8
                · obtain rfl : mi = 88 := by omega
                  exact xmk_88
                · obtain rfl : mi = 89 := by omega
                  exact xmk_89
            · rcases Nat.lt_or_ge mi 91 with h7 | h7
              · obtain rfl : mi = 90 := by omega
                exact xmk_90
              · rcases Nat.lt_or_ge mi 92 with h8 | h8
                · obtain rfl : mi = 91 := by omega
                  exact xmk_91
                · obtain rfl : mi = 92 := by omega
                  exact xmk_92
          · rcases Nat.lt_or_ge mi 96 with h6 | h6
            · rcases Nat.lt_or_ge mi 94 with h7 | h7
              · obtain rfl : mi = 93 := by omega
                exact xmk_93
              · rcases Nat.lt_or_ge mi 95 with h8 | h8
                · obtain rfl : mi = 94 := by omega
                  exact xmk_94
                · obtain rfl : mi = 95 := by omega
                  exact xmk_95
            · rcases Nat.lt_or_ge mi 98 with h7 | h7
              · rcases Nat.lt_or_ge mi 97 with h8 | h8
                · obtain rfl : mi = 96 := by omega
                  exact xmk_96
                · obtain rfl : mi = 97 := by omega
                  exact xmk_97
              · rcases Nat.lt_or_ge mi 99 with h8 | h8
                · obtain rfl : mi = 98 := by omega
                  exact xmk_98
                · obtain rfl : mi = 99 := by omega
                  exact xmk_99
  · rcases Nat.lt_or_ge mi 150 with h2 | h2
    · rcases Nat.lt_or_ge mi 125 with h3 | h3
      · rcases Nat.lt_or_ge mi 112 with h4 | h4
        · rcases Nat.lt_or_ge mi 106 with h5 | h5
          · rcases Nat.lt_or_ge mi 103 with h6 | h6
            · rcases Nat.lt_or_ge mi 101 with h7 | h7
              · obtain rfl : mi = 100 := by omega
                exact xmk_100
              · rcases Nat.lt_or_ge mi 102 with h8 | h8
                · obtain rfl : mi = 101 := by omega
                  exact xmk_101
                · obtain rfl : mi = 102 := by omega
                  exact xmk_102
            · rcases Nat.lt_or_ge mi 104 with h7 | h7
              · obtain rfl : mi = 103 := by omega
                exact xmk_103
              · rcases Nat.lt_or_ge mi 105 with h8 | h8
                · obtain rfl : mi = 104 := by omega
                  exact xmk_104
                · obtain rfl : mi = 105 := by omega
                  exact xmk_105
          · rcases Nat.lt_or_ge mi 109 with h6 | h6
            · rcases Nat.lt_or_ge mi 107 with h7 | h7
              · obtain rfl : mi = 106 := by omega
                exact xmk_106
              · rcases Nat.lt_or_ge mi 108 with h8 | h8
                · obtain rfl : mi = 107 := by omega
                  exact xmk_107
                · obtain rfl : mi = 108 := by omega
                  exact xmk_108
            · rcases Nat.lt_or_ge mi 110 with h7 | h7
              · obtain rfl : mi = 109 := by omega
                exact xmk_109
              · rcases Nat.lt_or_ge mi 111 with h8 | h8
                · obtain rfl : mi = 110 := by omega
                  exact xmk_110
                · obtain rfl : mi = 111 := by omega
                  exact xmk_111
        · rcases Nat.lt_or_ge mi 118 with h5 | h5
          · rcases Nat.lt_or_ge mi 115 with h6 | h6
            · rcases Nat.lt_or_ge mi 113 with h7 | h7
              · obtain rfl : mi = 112 := by omega
                exact xmk_112
              · rcases Nat.lt_or_ge mi 114 with h8 | h8
                · obtain rfl : mi = 113 := by omega
                  exact xmk_113
                · obtain rfl : mi = 114 := by omega
                  exact xmk_114
            · rcases Nat.lt_or_ge mi 116 with h7 | h7
              · obtain rfl : mi = 115 := by omega
                exact xmk_115
              · rcases Nat.lt_or_ge mi 117 with h8 | h8
                · obtain rfl : mi = 116 := by omega
                  exact xmk_116
                · obtain rfl : mi = 117 := by omega
                  exact xmk_117
          · rcases Nat.lt_or_ge mi 121 with h6 | h6
            · rcases Nat.lt_or_ge mi 119 with h7 | h7
              · obtain rfl : mi = 118 := by omega
                exact xmk_118
              · rcases Nat.lt_or_ge mi 120 with h8 | h8
                · obtain rfl : mi = 119 := by omega
                  exact xmk_119
                · obtain rfl : mi = 120 := by omega
                  exact xmk_120
            · rcases Nat.lt_or_ge mi 123 with h7 | h7
              · rcases Nat.lt_or_ge mi 122 with h8 | h8
                · obtain rfl : mi = 121 := by omega
                  exact xmk_121
                · obtain rfl : mi = 122 := by omega
                  exact xmk_122
              · rcases Nat.lt_or_ge mi 124 with h8 | h8
                · obtain rfl : mi = 123 := by omega
                  exact xmk_123
                · obtain rfl : mi = 124 := by omega
                  exact xmk_124
      · rcases Nat.lt_or_ge mi 137 with h4 | h4
        · rcases Nat.lt_or_ge mi 131 with h5 | h5
          · rcases Nat.lt_or_ge mi 128 with h6 | h6
            · rcases Nat.lt_or_ge mi 126 with h7 | h7
              · obtain rfl : mi = 125 := by omega
                exact xmk_125
              · rcases Nat.lt_or_ge mi 127 with h8 | h8
                · obtain rfl : mi = 126 := by omega
                  exact xmk_126
                · obtain rfl : mi = 127 := by omega
                  exact xmk_127
            · rcases Nat.lt_or_ge mi 129 with h7 | h7
              · obtain rfl : mi = 128 := by omega
                exact xmk_128
              · rcases Nat.lt_or_ge mi 130 with h8 | h8
                · obtain rfl : mi = 129 := by omega
                  exact xmk_129
                · obtain rfl : mi = 130 := by omega
                  exact xmk_130
          · rcases Nat.lt_or_ge mi 134 with h6 | h6
            · rcases Nat.lt_or_ge mi 132 with h7 | h7
              · obtain rfl : mi = 131 := by omega
                exact xmk_131
              · rcases Nat.lt_or_ge mi 133 with h8 | h8
                · obtain rfl : mi = 132 := by omega
                  exact xmk_132
                · obtain rfl : mi = 133 := by omega
                  exact xmk_133
            · rcases Nat.lt_or_ge mi 135 with h7 | h7
              · obtain rfl : mi = 134 := by omega
                exact xmk_134
              · rcases Nat.lt_or_ge mi 136 with h8 | h8
                · obtain rfl : mi = 135 := by omega
                  exact xmk_135
                · obtain rfl : mi = 136 := by omega
                  exact xmk_136
        · rcases Nat.lt_or_ge mi 143 with h5 | h5
          · rcases Nat.lt_or_ge mi 140 with h6 | h6
            · rcases Nat.lt_or_ge mi 138 with h7 | h7
              · obtain rfl : mi = 137 := by omega
                exact xmk_137
              · rcases Nat.lt_or_ge mi 139 with h8 | h8
                · obtain rfl : mi = 138 := by omega
                  exact xmk_138
                · obtain rfl : mi = 139 := by omega
                  exact xmk_139
            · rcases Nat.lt_or_ge mi 141 with h7 | h7
              · obtain rfl : mi = 140 := by omega
                exact xmk_140
              · rcases Nat.lt_or_ge mi 142 with h8 | h8
                · obtain rfl : mi = 141 := by omega
                  exact xmk_141
                · obtain rfl : mi = 142 := by omega
                  exact xmk_142
          · rcases Nat.lt_or_ge mi 146 with h6 | h6
            · rcases Nat.lt_or_ge mi 144 with h7 | h7
              · obtain rfl : mi = 143 := by omega
                exact xmk_143
              · rcases Nat.lt_or_ge mi 145 with h8 | h8
                · obtain rfl : mi = 144 := by omega
                  exact xmk_144
                · obtain rfl : mi = 145 := by omega
                  exact xmk_145
            · rcases Nat.lt_or_ge mi 148 with h7 | h7
              · rcases Nat.lt_or_ge mi 147 with h8 | h8
                · obtain rfl : mi = 146 := by omega
                  exact xmk_146
                · obtain rfl : mi = 147 := by omega
                  exact xmk_147
              · rcases Nat.lt_or_ge mi 149 with h8 | h8
                · obtain rfl : mi = 148 := by omega
                  exact xmk_148
                · obtain rfl : mi = 149 := by omega
                  exact xmk_149
    · rcases Nat.lt_or_ge mi 175 with h3 | h3
      · rcases Nat.lt_or_ge mi 162 with h4 | h4
        · rcases Nat.lt_or_ge mi 156 with h5 | h5
          · rcases Nat.lt_or_ge mi 153 with h6 | h6
            · rcases Nat.lt_or_ge mi 151 with h7 | h7
              · obtain rfl : mi = 150 := by omega
                exact xmk_150
              · rcases Nat.lt_or_ge mi 152 with h8 | h8
                · obtain rfl : mi = 151 := by omega
                  exact xmk_151
                · obtain rfl : mi = 152 := by omega
                  exact xmk_152
            · rcases Nat.lt_or_ge mi 154 with h7 | h7
              · obtain rfl : mi = 153 := by omega
                exact xmk_153
              · rcases Nat.lt_or_ge mi 155 with h8 | h8
                · obtain rfl : mi = 154 := by omega
                  exact xmk_154
                · obtain rfl : mi = 155 := by omega
                  exact xmk_155
          · rcases Nat.lt_or_ge mi 159 with h6 | h6
            · rcases Nat.lt_or_ge mi 157 with h7 | h7
              · obtain rfl : mi = 156 := by omega
                exact xmk_156
              · rcases Nat.lt_or_ge mi 158 with h8 | h8
                · obtain rfl : mi = 157 := by omega
                  exact xmk_157
                · obtain rfl : mi = 158 := by omega
                  exact xmk_158
            · rcases Nat.lt_or_ge mi 160 with h7 | h7
              · obtain rfl : mi = 159 := by omega
                exact xmk_159
              · rcases Nat.lt_or_ge mi 161 with h8 | h8
                · obtain rfl : mi = 160 := by omega
                  exact xmk_160
                · obtain rfl : mi = 161 := by omega
                  exact xmk_161
        · rcases Nat.lt_or_ge mi 168 with h5 | h5
          · rcases Nat.lt_or_ge mi 165 with h6 | h6
            · rcases Nat.lt_or_ge mi 163 with h7 | h7
              · obtain rfl : mi = 162 := by omega
                exact xmk_162
              · rcases Nat.lt_or_ge mi 164 with h8 | h8
                · obtain rfl : mi = 163 := by omega
                  exact xmk_163
                · obtain rfl : mi = 164 := by omega
                  exact xmk_164
            · rcases Nat.lt_or_ge mi 166 with h7 | h7
              · obtain rfl : mi = 165 := by omega
                exact xmk_165
              · rcases Nat.lt_or_ge mi 167 with h8 | h8
                · obtain rfl : mi = 166 := by omega
                  exact xmk_166
                · obtain rfl : mi = 167 := by omega
                  exact xmk_167
          · rcases Nat.lt_or_ge mi 171 with h6 | h6
            · rcases Nat.lt_or_ge mi 169 with h7 | h7
              · obtain rfl : mi = 168 := by omega
                exact xmk_168
              · rcases Nat.lt_or_ge mi 170 with h8 | h8
                · obtain rfl : mi = 169 := by omega
                  exact xmk_169
                · obtain rfl : mi = 170 := by omega
                  exact xmk_170
            · rcases Nat.lt_or_ge mi 173 with h7 | h7
              · rcases Nat.lt_or_ge mi 172 with h8 | h8
                · obtain rfl : mi = 171 := by omega
                  exact xmk_171
                · obtain rfl : mi = 172 := by omega
                  exact xmk_172
              · rcases Nat.lt_or_ge mi 174 with h8 | h8
                · obtain rfl : mi = 173 := by omega
                  exact xmk_173
                · obtain rfl : mi = 174 := by omega
                  exact xmk_174
      · rcases Nat.lt_or_ge mi 188 with h4 | h4
        · rcases Nat.lt_or_ge mi 181 with h5 | h5
          · rcases Nat.lt_or_ge mi 178 with h6 | h6
            · rcases Nat.lt_or_ge mi 176 with h7 | h7
              · obtain rfl : mi = 175 := by omega
                exact xmk_175
              · rcases Nat.lt_or_ge mi 177 with h8 | h8
                · obtain rfl : mi = 176 := by omega
                  exact xmk_176
                · obtain rfl : mi = 177 := by omega
                  exact xmk_177
            · rcases Nat.lt_or_ge mi 179 with h7 | h7
              · obtain rfl : mi = 178 := by omega
                exact xmk_178
              · rcases Nat.lt_or_ge mi 180 with h8 | h8
                · obtain rfl : mi = 179 := by omega
                  exact xmk_179
                · obtain rfl : mi = 180 := by omega
                  exact xmk_180
          · rcases Nat.lt_or_ge mi 184 with h6 | h6
            · rcases Nat.lt_or_ge mi 182 with h7 | h7
              · obtain rfl : mi = 181 := by omega
                exact xmk_181
              · rcases Nat.lt_or_ge mi 183 with h8 | h8
                · obtain rfl : mi = 182 := by omega
                  exact xmk_182
                · obtain rfl : mi = 183 := by omega
                  exact xmk_183
            · rcases Nat.lt_or_ge mi 186 with h7 | h7
              · rcases Nat.lt_or_ge mi 185 with h8 | h8
                · obtain rfl : mi = 184 := by omega
                  exact xmk_184
                · obtain rfl : mi = 185 := by omega
                  exact xmk_185
              · rcases Nat.lt_or_ge mi 187 with h8 | h8
                · obtain rfl : mi = 186 := by omega
                  exact xmk_186
                · obtain rfl : mi = 187 := by omega
                  exact xmk_187
        · rcases Nat.lt_or_ge mi 194 with h5 | h5
          · rcases Nat.lt_or_ge mi 191 with h6 | h6
            · rcases Nat.lt_or_ge mi 189 with h7 | h7
              · obtain rfl : mi = 188 := by omega
                exact xmk_188
              · rcases Nat.lt_or_ge mi 190 with h8 | h8
                · obtain rfl : mi = 189 := by omega
                  exact xmk_189
                · obtain rfl : mi = 190 := by omega
                  exact xmk_190
            · rcases Nat.lt_or_ge mi 192 with h7 | h7
              · obtain rfl : mi = 191 := by omega
                exact xmk_191
              · rcases Nat.lt_or_ge mi 193 with h8 | h8
                · obtain rfl : mi = 192 := by omega
                  exact xmk_192
                · obtain rfl : mi = 193 := by omega
                  exact xmk_193
          · rcases Nat.lt_or_ge mi 197 with h6 | h6
            · rcases Nat.lt_or_ge mi 195 with h7 | h7
              · obtain rfl : mi = 194 := by omega
                exact xmk_194
              · rcases Nat.lt_or_ge mi 196 with h8 | h8
                · obtain rfl : mi = 195 := by omega
                  exact xmk_195
                · obtain rfl : mi = 196 := by omega
                  exact xmk_196
            · rcases Nat.lt_or_ge mi 199 with h7 | h7
              · rcases Nat.lt_or_ge mi 198 with h8 | h8
                · obtain rfl : mi = 197 := by omega
                  exact xmk_197
                · obtain rfl : mi = 198 := by omega
                  exact xmk_198
              · rcases Nat.lt_or_ge mi 200 with h8 | h8
                · obtain rfl : mi = 199 := by omega
                  exact xmk_199
                · obtain rfl : mi = 200 := by omega
                  exact xmk_200
end
section
theorem xmok_spec {mi : Nat} (h0 : xmok mi) : Cond.code (mt mi).1 (xby mi) (xml mi) (xrt mi) ∈ xT ∧ (bif xst mi then Cond.static (mt mi).1 else Cond.instanceMethod (mt mi).1) ∈ xT ∧ (xst mi = true ∨ Cond.selects (mt mi).1.cls (mt mi).1 (mt mi).1 ∈ xT) ∧ Cond.initialized (mt mi).1.cls ∈ xT ∧ plainName (mt mi).1.cls = true ∧ (mt mi).1.cls ≠ "java/lang/invoke/MethodHandle" ∧ (mt mi).1.cls ≠ "java/lang/invoke/VarHandle" ∧ xml mi ≤ 21 := by
  obtain ⟨h1, h⟩ := h0
  unfold xmB at h
  simp only [Bool.and_eq_true, Bool.or_eq_true, decide_eq_true_eq] at h
  obtain ⟨⟨⟨⟨⟨⟨h2, h3⟩, h4⟩, h5⟩, h6⟩, h7⟩, h8⟩ := h
  exact ⟨List.mem_filter.mpr ⟨List.mem_of_getElem? h1, rfl⟩, xwd_mem h2, h3.imp id xwd_mem, xwd_mem h4, h5, h6, h7, Nat.le_of_ble_eq_true h8⟩
theorem xgood {mi : Nat} (h : xmok mi) : GoodIn xT (xws mi) := fun w hw => by
  have hm : w ∈ xT := by
    rcases List.mem_cons.mp hw with e | hw
    · rw [e]; exact (xmok_spec h).1
    · exact hw
  exact ⟨hm, good_of_word (List.mem_filter.mp hm).2⟩
theorem xW.back {s t : State} {D : va_G} {B : Nat} {L L' : xL} {S S' : xS} {H H1 : Heap} (hvm : s.vm.Alike t.vm) (hLX : xLX L L') (h0 : xW s D B L S H) (h : xW t D B L' S' H1) : xW s D B L' S' H1 := by
  obtain ⟨h1, h2, h3, h4, h5, h6, -⟩ := h
  exact ⟨h0.1, fun k i hi => (h2 k i hi).moved hvm.symm, h3, h4, h0.2.2.2.2.1, h6.moved hvm.symm, fun i hi => by rw [hLX 75 i (by decide)]; exact h0.2.2.2.2.2.2 i hi⟩
def xn8 (v : xV) : Bool := match v with
  | .inr (.inr q) => !(Nat.beq q.1 18)
  | _ => true
def xn8o (v : Option xV) : Bool := match v with
  | some v => xn8 v
  | none => true
theorem xcv_eq {L L' : xL} (hL : xLX L L') {v : xV} (h : xn8 v = true) : xcv L' v = xcv L v := by
  rcases v with x | x | ⟨k, i⟩
  · rfl
  · rfl
  · have hk : k ≠ 18 := fun e => by subst e; cases h
    show Value.ref (L' k i) = Value.ref (L k i)
    rw [hL k i hk]
theorem xal_eq {L L' : xL} (hL : xLX L L') : ∀ {lv : List (Option xV)} {j : Nat}, lv.all xn8o = true → xal L' j lv = xal L j lv
  | [], _, _ => rfl
  | none :: r, j, h => xal_eq hL (lv := r) (j := j + 1) (by simpa [xn8o] using h)
  | some v :: r, j, h => by
    have h1 : xn8 v = true ∧ r.all xn8o = true := by simpa [xn8o] using h
    show (j, xcv L' v) :: xal L' (j + 1) r = (j, xcv L v) :: xal L (j + 1) r
    rw [xcv_eq hL h1.1, xal_eq hL h1.2]
theorem xmap_eq {L L' : xL} (hL : xLX L L') : ∀ {st : List xV}, st.all xn8 = true → st.map (xcv L') = st.map (xcv L)
  | [], _ => rfl
  | v :: r, h => by
    have h1 : xn8 v = true ∧ r.all xn8 = true := by simpa using h
    show xcv L' v :: r.map (xcv L') = xcv L v :: r.map (xcv L)
    rw [xcv_eq hL h1.1, xmap_eq hL h1.2]
def xcs : List xV → Nat
  | [] => 0
  | v :: r => cond (xlong (some v)) 2 1 + xcs r
theorem xcs_eq (L : xL) : ∀ st : List xV, ((st.map (xcv L)).map fun v => v.category).sum = xcs st
  | [] => rfl
  | v :: r => by
    have := xcs_eq L r
    rcases v with x | x | q <;> simpa [xcs, xcv, Value.category, xlong] using this
theorem xblind {av : List Value} {D : va_G} {B : Nat} {L : xL} {S : xS} : FrameBlind (va_Pc av (fun U => B ≤ U.heap.size ∧ xW U D B L S U.heap)) := fun a U g mk q => ⟨q.1, q.2.1, xW.same (s := U) (U := U.calling g mk a) rfl q.2.2⟩
theorem xcall {p : Program} {l : Launch} {e : Env} {R : Room} {s : State} {m : MethodId} {args : Array Value} {below : List Frame} {meth : Method} {c0 : Code} {H : Heap} {locs : List Loc} {cells slots mc ms : Nat} {Q : State → Prop} {pc : Nat} {ls : Array Slot} {st0 rest : List Value} {D : va_G} {B : Nat} {L : xL} {S : xS} {Q' : Option xV → xS → Prop} {a : Array Value}
    (hr : va_Run p l e R s m args below meth c0 H locs cells slots mc ms (F0 m pc ls st0) rest (xQc D B L Q' a) (xA B)) (hW : xW s D B L S H) (hS : va_S (xA B) s.heap H locs)
    (kk : ∀ (r : Option xV) (S' : xS) (L' : xL) (H1 : Heap) (locs1 : List Loc), (∀ v, r = some v → xok L' v) → Q' r S' → xLX L L' → xW s D B L' S' H1 → va_S (xA B) s.heap H1 locs1 → W p l e R s m args below meth c0 H1 locs1 (cells + mc) (slots + ms) Q (F0 m (pc + 3) ls ((r.map (xcv L')).toList ++ rest))) : W p l e R s m args below meth c0 H locs cells slots Q (F0 m pc ls st0) := by
  intro T hT X
  obtain ⟨v, st₀, t, T', L2, h0, X', hLL, e1, e2, ⟨⟨r, S', L', hv, hok, hq, hLX, hWt⟩, hz, hk⟩, stp⟩ := hr T hT X
  have hv' : v = r.map (xcv L') := Outcome.returned.inj hv
  subst hv'
  rw [h0] at hz hk
  obtain ⟨t2, a1, b1⟩ := kk r S' L' T'.heap (locs ++ L2) hok hq hLX (xW.back (L := L) (by rw [← e2]; exact X'.warmed.alike) hLX hW (by rw [e1]; exact hWt))
    ⟨Nat.le_trans hS.1 (by rw [e1]; exact hz), fun q h1 h2 => by rw [e1, hk q (Nat.lt_of_lt_of_le h1 hS.1) h2]; exact hS.2.1 q h1 h2, fun q hq => by
      rcases List.mem_append.mp hq with h | h
      · exact hS.2.2 q h
      · exact hLL q h⟩ T' rfl X'
  exact ⟨t2, stp t2 a1, b1⟩
section XK
variable {d c z mi pc : Nat} {lv : List (Option xV)} {st : List xV} {S : xS} {Q : Option xV → xS → Prop}
theorem vs_callS {c' z' idx mi2 : Nat} {av rest : List xV} (hd : decode (xby mi) pc = .ok (.invokestatic idx, 3)) (hm : xmok mi2) (hst2 : xst mi2 = true) (hlk : Cond.methodLink (mt mi).1.cls idx (mt mi2).1 ∈ xT ∨ Cond.methodLinkNest (mt mi).1.cls idx (mt mi2).1 "MonsoonTrade" ∈ xN)
    (hnp : (parseMethodDescriptor (mt mi2).1.desc).map (fun d => d.parameters.length) = some av.length) (hct : xcs rest ≤ 8) (h8 : lv.all xn8o = true) (h8r : rest.all xn8 = true)
    (h : CT d c' z' mi2 av S (fun r S' => V (d + 1) c z mi (pc + 3) lv (r.toList ++ rest) S' Q)) : V (d + 1) (c + c') (z + z') mi pc lv (av.reverse ++ rest) S Q := by
  intro p l e R s m args below meth c0 H locs ls cells slots mc ms D B L0 L C hc hz hRc hRs hB hL hW hS hlv hst hl
  have hM := h l D B L (fun v hv => hst v (List.mem_append_left _ (List.mem_reverse.mpr hv)))
  obtain ⟨m1, m2, -, m4, -, m6, m7, m8⟩ := xmok_spec hm
  have hts := C.2.2.2.2.2.1
  rw [hst2] at m2
  have hf : (xRm d c' z').frames + 1 ≤ R.frames ∧ 8 + (xml mi2 + 11) + (xRm d c' z').locals ≤ R.locals := ⟨C.2.2.2.2.2.2.2.1, by have := C.2.2.2.2.2.2.2.2; show 8 + (xml mi2 + 11) + 40 * d ≤ R.locals; omega⟩
  have hP : PreS s H (va_Pc (av.map (xcv L)) (fun U => B ≤ U.heap.size ∧ xW U D B L S U.heap)) (av.map (xcv L)) := ⟨xblind, fun U hU hWm => ⟨rfl, by rw [hU]; exact Nat.le_trans hB hS.1, by rw [hU]; exact hW.warm hWm⟩⟩
  have hsk : (F0 m pc ls ((av.reverse ++ rest).map (xcv L))).stack = (av.map (xcv L)).reverse ++ rest.map (xcv L) := by show (av.reverse ++ rest).map (xcv L) = _; rw [List.map_append, List.map_reverse]
  have hroom : 2 * (F0 m pc ls ((av.reverse ++ rest).map (xcv L))).monitorRoom + ((rest.map (xcv L)).map fun v => v.category).sum ≤ 8 := lv_room (by rw [xcs_eq]; exact hct)
  have hrun : va_Run p l e R s m args below meth c0 H locs cells slots c' z' (F0 m pc ls ((av.reverse ++ rest).map (xcv L))) (rest.map (xcv L)) (xQc D B L (fun r S' => V (d + 1) c z mi (pc + 3) lv (r.toList ++ rest) S' Q) (av.map (xcv L)).toArray) (xA B) := by
    rcases hlk with hw | hw
    · exact va_runS ⟨C.1, C.2.1, C.2.2.2.1, C.2.2.2.2.1, hts⟩ hM ⟨callB_of (ws' := xT) av.length hts (xgood hm) rfl rfl rfl (hts _ m4) (hts _ hw) ⟨m6, m7, hnp⟩ hf, hts _ m2⟩ hP rfl (by simp) hl.1 hsk hroom hd ⟨by omega, by omega⟩
    · exact va_runSN ⟨C.1, C.2.1, C.2.2.2.1, C.2.2.2.2.1, hts⟩ hM ⟨va_cnB (ws' := xT) av.length hts (xgood hm) rfl rfl rfl (hW.2.2.2.2.1 _ hw) (hts _ m4) ⟨m6, m7, hnp⟩ hf, hts _ m2, trivial⟩ hP rfl (by simp) hl.1 hsk hroom hd ⟨by omega, by omega⟩
  refine xcall hrun hW hS (fun r S' L' H1 locs1 hok hq hLX hW1 hS1 => ?_)
  have e1 : (r.map (xcv L')).toList ++ rest.map (xcv L) = (r.toList ++ rest).map (xcv L') := by
    rw [List.map_append, xmap_eq hLX h8r]
    cases r <;> rfl
  rw [e1]
  exact hq p l e R s m args below meth c0 H1 locs1 ls (cells + c') (slots + z') mc ms D B L0 L' C (by omega) (by omega) hRc hRs hB (fun k i hk => (hLX k i hk).trans (hL k i hk)) hW1 hS1 (fun v hv => xok_LX hLX (hlv v hv)) (fun v hv => by
    rcases List.mem_append.mp hv with hv | hv
    · exact hok v (by cases r with
        | none => cases hv
        | some w => rw [List.mem_singleton.mp hv])
    · exact xok_LX hLX (hst v (List.mem_append_right _ hv))) (by rw [xal_eq hLX h8]; exact hl)
theorem vs_callV {c' z' idx mi2 k i ci : Nat} {sl : List (Option (Nat × Nat × Nat))} {av rest : List xV} (hd : decode (xby mi) pc = .ok (.invokevirtual idx, 3)) (hm : xmok mi2) (hst2 : xst mi2 = false) (hlk : Cond.methodLink (mt mi).1.cls idx (mt mi2).1 ∈ xT ∨ Cond.methodLinkNest (mt mi).1.cls idx (mt mi2).1 "MonsoonTrade" ∈ xN)
    (hsh : xsh k = .inl (ci, sl)) (hcl : (ci = 99 ∧ (mt mi2).1.cls = "java/lang/String") ∨ ∃ T N, classes[ci]? = some ((mt mi2).1.cls, T, N))
    (hnp : (parseMethodDescriptor (mt mi2).1.desc).map (fun d => d.parameters.length) = some av.length) (hct : xcs rest ≤ 8) (h8 : lv.all xn8o = true) (h8r : rest.all xn8 = true)
    (h : CT d c' z' mi2 (.inr (.inr (k, i)) :: av) S (fun r S' => V (d + 1) c z mi (pc + 3) lv (r.toList ++ rest) S' Q)) : V (d + 1) (c + c') (z + z') mi pc lv (av.reverse ++ .inr (.inr (k, i)) :: rest) S Q := by
  intro p l e R s m args below meth c0 H locs ls cells slots mc ms D B L0 L C hc hz hRc hRs hB hL hW hS hlv hst hl
  have hkc : xok L (.inr (.inr (k, i))) := hst _ (List.mem_append_right _ List.mem_cons_self)
  have hM := h l D B L (fun v hv => by
    rcases List.mem_cons.mp hv with e | hv
    · rw [e]; exact hkc
    · exact hst v (List.mem_append_left _ (List.mem_reverse.mpr hv)))
  obtain ⟨m1, m2, m3, m4, -, m6, m7, m8⟩ := xmok_spec hm
  have hts := C.2.2.2.2.2.1
  rw [hst2] at m2 m3
  have m3 : Cond.selects (mt mi2).1.cls (mt mi2).1 (mt mi2).1 ∈ xT := m3.resolve_left (fun h => by cases h)
  have hf : (xRm d c' z').frames + 1 ≤ R.frames ∧ 8 + (xml mi2 + 11) + (xRm d c' z').locals ≤ R.locals := ⟨C.2.2.2.2.2.2.2.1, by have := C.2.2.2.2.2.2.2.2; show 8 + (xml mi2 + 11) + 40 * d ≤ R.locals; omega⟩
  have hrc : ∃ cellB : Cell, H[L k i]? = some cellB ∧ cellB.vm.isStatics = false ∧ s.vm.findClass (mt mi2).1.cls = some cellB.cls := by
    rcases hcl with ⟨rfl, e⟩ | ⟨T, N, hcl⟩
    · obtain ⟨rfl, -⟩ := xsh_99 (xcn_le hkc) hsh
      obtain ⟨cell, q1, q2, q3, -⟩ := (hW.2.2.2.2.2.1.2.2.2 i (xcn_le hkc)).1
      exact ⟨cell, q1, q2, by rw [e]; exact q3⟩
    · obtain ⟨cell, q1, q2, q3, -⟩ := xcell_o (hW.2.1 k i hkc) hsh hcl
      exact ⟨cell, q1, by rw [q3]; rfl, by rw [q2]; exact (hW.1.1 ci _ hcl).2.1⟩
  have hP : PreV s H (mt mi2).1.cls (L k i) (va_Pc ((.inr (.inr (k, i)) :: av).map (xcv L)) (fun U => B ≤ U.heap.size ∧ xW U D B L S U.heap)) (av.map (xcv L)) := ⟨xblind, hrc, fun U hU hWm => ⟨rfl, by rw [hU]; exact Nat.le_trans hB hS.1, by rw [hU]; exact hW.warm hWm⟩⟩
  have hsk : (F0 m pc ls ((av.reverse ++ .inr (.inr (k, i)) :: rest).map (xcv L))).stack = (av.map (xcv L)).reverse ++ .ref (L k i) :: rest.map (xcv L) := by show (av.reverse ++ .inr (.inr (k, i)) :: rest).map (xcv L) = _; rw [List.map_append, List.map_reverse]; rfl
  have hroom : 2 * (F0 m pc ls ((av.reverse ++ .inr (.inr (k, i)) :: rest).map (xcv L))).monitorRoom + ((rest.map (xcv L)).map fun v => v.category).sum ≤ 8 := lv_room (by rw [xcs_eq]; exact hct)
  have hrun : va_Run p l e R s m args below meth c0 H locs cells slots c' z' (F0 m pc ls ((av.reverse ++ .inr (.inr (k, i)) :: rest).map (xcv L))) (rest.map (xcv L)) (xQc D B L (fun r S' => V (d + 1) c z mi (pc + 3) lv (r.toList ++ rest) S' Q) (Value.ref (L k i) :: av.map (xcv L)).toArray) (xA B) := by
    rcases hlk with hw | hw
    · exact va_runV ⟨C.1, C.2.1, C.2.2.2.1, C.2.2.2.2.1, hts⟩ hM ⟨callB_of (ws' := xT) av.length hts (xgood hm) rfl rfl rfl (hts _ m4) (hts _ hw) ⟨m6, m7, hnp⟩ hf, hts _ m2, hts _ m3⟩ hP rfl (by simp) hl.1 hsk hroom hd ⟨by omega, by omega⟩
    · exact va_runVN ⟨C.1, C.2.1, C.2.2.2.1, C.2.2.2.2.1, hts⟩ hM ⟨va_cnB (ws' := xT) av.length hts (xgood hm) rfl rfl rfl (hW.2.2.2.2.1 _ hw) (hts _ m4) ⟨m6, m7, hnp⟩ hf, hts _ m2, hts _ m3⟩ hP rfl (by simp) hl.1 hsk hroom hd ⟨by omega, by omega⟩
  refine xcall hrun hW hS (fun r S' L' H1 locs1 hok hq hLX hW1 hS1 => ?_)
  have e1 : (r.map (xcv L')).toList ++ rest.map (xcv L) = (r.toList ++ rest).map (xcv L') := by
    rw [List.map_append, xmap_eq hLX h8r]
    cases r <;> rfl
  rw [e1]
  exact hq p l e R s m args below meth c0 H1 locs1 ls (cells + c') (slots + z') mc ms D B L0 L' C (by omega) (by omega) hRc hRs hB (fun k i hk => (hLX k i hk).trans (hL k i hk)) hW1 hS1 (fun v hv => xok_LX hLX (hlv v hv)) (fun v hv => by
    rcases List.mem_append.mp hv with hv | hv
    · exact hok v (by cases r with
        | none => cases hv
        | some w => rw [List.mem_singleton.mp hv])
    · exact xok_LX hLX (hst v (List.mem_append_right _ (List.mem_cons_of_mem _ hv)))) (by rw [xal_eq hLX h8]; exact hl)
/-! a method's entry -/
def xen : List xV → Nat → List (Option xV)
  | [], n => List.replicate n none
  | v :: r, n => some v :: cond (xlong (some v)) (none :: xen r (n - 2)) (xen r (n - 1))
theorem xal_none {L : xL} : ∀ (n j : Nat), xal L j (List.replicate n none) = []
  | 0, _ => rfl
  | n + 1, j => xal_none n (j + 1)
theorem xen_al {L : xL} : ∀ (av : List xV) (n j : Nat), xal L j (xen av n) = lv_args j (av.map (xcv L))
  | [], n, j => xal_none n j
  | v :: r, n, j => by
    rcases v with x | x | q
    · show (j, Value.int x) :: xal L (j + 1) (xen r (n - 1)) = (j, Value.int x) :: lv_args (if (Value.int x).category = 2 then j + 2 else j + 1) (r.map (xcv L))
      rw [xen_al r]; rfl
    · show (j, Value.long x) :: xal L (j + 1 + 1) (xen r (n - 2)) = (j, Value.long x) :: lv_args (if (Value.long x).category = 2 then j + 2 else j + 1) (r.map (xcv L))
      rw [xen_al r]; rfl
    · show (j, Value.ref (L q.1 q.2)) :: xal L (j + 1) (xen r (n - 1)) = (j, Value.ref (L q.1 q.2)) :: lv_args (if (Value.ref (L q.1 q.2)).category = 2 then j + 2 else j + 1) (r.map (xcv L))
      rw [xen_al r]; rfl
theorem xen_ok {u : xV} : ∀ {av : List xV} {n : Nat}, some u ∈ xen av n → u ∈ av
  | [], n, h => by simp [xen] at h
  | v :: r, n, h => by
    rcases List.mem_cons.mp h with h | h
    · cases h; exact List.mem_cons_self
    · cases hc : xlong (some v) with
      | true =>
        rw [hc] at h
        rcases List.mem_cons.mp h with h | h
        · cases h
        · exact List.mem_cons_of_mem _ (xen_ok h)
      | false => rw [hc] at h; exact List.mem_cons_of_mem _ (xen_ok h)
theorem xlg (L : xL) : ∀ av : List xV, (lg_sl (av.map (xcv L))).length = xcs av
  | [] => rfl
  | v :: r => by
    have := xlg L r
    rcases v with x | x | q
    · show ((if (Value.int x).category = 2 then [Slot.val (.int x), .second] else [Slot.val (.int x)]) ++ lg_sl (r.map (xcv L))).length = _
      rw [List.length_append, this]; rfl
    · show ((if (Value.long x).category = 2 then [Slot.val (.long x), .second] else [Slot.val (.long x)]) ++ lg_sl (r.map (xcv L))).length = _
      rw [List.length_append, this]; rfl
    · show ((if (Value.ref (L q.1 q.2)).category = 2 then [Slot.val (.ref (L q.1 q.2)), .second] else [Slot.val (.ref (L q.1 q.2))]) ++ lg_sl (r.map (xcv L))).length = _
      rw [List.length_append, this]; rfl
theorem ct_of {av : List xV} (hm : xmok mi) (hn : Nat.ble (xcs av) (xml mi) = true) (h : V d c z mi 0 (xen av (xml mi)) [] S Q) : CT d c z mi av S Q := by
  intro l D B L hav
  refine Met.ofW (cc := xby mi) (maxL := xml mi) (ret := xrt mi) (xmok_spec hm).2.2.2.2.1 rfl ?_
  intro p e s m args below meth c0 s₁ Bd hml hv
  obtain ⟨rfl, hB, hW⟩ := hv
  have hts := atoms_spec (ws := xws mi) Bd.pre
  have hl := lv_entry (av.map (xcv L)) (n := xml mi) (by rw [xlg]; exact Nat.le_of_ble_eq_true hn)
  rw [lg_entry_eq]
  rw [← xen_al av (xml mi)] at hl
  exact h p l e _ s m _ below meth c0 s.heap [] _ 0 0 c z D B L L ⟨Bd.exec, Bd.bytes, Bd.returns, hml, findClass_of_methodNamed Bd.named, fun w hw => hts w (List.mem_cons_of_mem _ hw), Bd.notSynchronized, Nat.le_refl d, Nat.le_refl (40 * d)⟩ (by omega) (by omega) rfl rfl hB (fun _ _ _ => rfl) hW va_S.rf (fun v hv => hav v (xen_ok hv)) (fun v hv => by cases hv) hl
/-! what a contract gives may be less -/
theorem CT.mono {mi2 : Nat} {av : List xV} {Q' : Option xV → xS → Prop} (h : CT d c z mi2 av S Q) (hq : ∀ r S', Q r S' → Q' r S') : CT d c z mi2 av S Q' := by
  intro l D B L hav p e ha hc hk s m args below hf h1 h2 h3
  obtain ⟨t, o, g1, g2, g3, ⟨⟨⟨r, S', L', k1, k2, k3, k4, k5⟩, g6⟩, g7⟩⟩ := h l D B L hav p e ha hc hk s m args below hf h1 h2 h3
  exact ⟨t, o, g1, g2, g3, ⟨⟨r, S', L', k1, k2, hq r S' k3, k4, k5⟩, g6⟩, g7⟩
/-! statics -/
theorem vs_under {idx : Nat} (hd : decode (xby mi) pc = .ok (.getstatic idx, 3)) (hlk : Cond.fieldLinkNest (mt mi).1.cls idx "MonsoonTrade" "UNDER" "[I" "MonsoonTrade" ∈ xN) (h : V d c z mi (pc + 3) lv (.inr (.inr (34, 0)) :: st) S Q) : V d c z mi pc lv st S Q := by
  intro p l e R s m args below meth c0 H locs ls cells slots mc ms D B L0 L C hc hz hRc hRs hB hL hW hS hlv hst hl
  obtain ⟨cf, kf, fi, f, a, cell, h1, h2, h3, h4, h5, h6, h7, h8⟩ := hW.2.2.2.2.2.1.1
  exact va_WgetsN C.1 C.2.1 C.2.2.2.2.1 (va_Nw.use rfl (hW.2.2.2.2.1 _ hlk)) h1 h2 h3 h4 h5 (fun e => by rw [e] at h6; cases h6) h7 rfl hd (h p l e R s m args below meth c0 H locs ls cells slots mc ms D B L0 L C hc hz hRc hRs hB hL hW hS hlv (fun u hu => by rcases List.mem_cons.mp hu with e | hu; rw [e]; exact (Nat.lt_of_sub_eq_succ rfl : 0 < xcn L 34); exact hst u hu) hl)
theorem vs_compact {idx : Nat} (hd : decode (xby mi) pc = .ok (.getstatic idx, 3)) (hlk : Cond.fieldLink (mt mi).1.cls idx "java/lang/String" "COMPACT_STRINGS" "Z" ∈ xT) (h : V d c z mi (pc + 3) lv (.inl 1 :: st) S Q) : V d c z mi pc lv st S Q := by
  intro p l e R s m args below meth c0 H locs ls cells slots mc ms D B L0 L C hc hz hRc hRs hB hL hW hS hlv hst hl
  obtain ⟨cf, kf, fi, f, a, cell, h1, h2, h3, h4, h5, h6, h7, h8⟩ := hW.2.2.2.2.2.1.2.1
  exact W.gets C.1 C.2.1 C.2.2.2.2.1 (C.2.2.2.2.2.1 _ hlk) h1 h2 h3 h4 h5 (fun e => by rw [e] at h6; cases h6) h7 rfl hd (h p l e R s m args below meth c0 H locs ls cells slots mc ms D B L0 L C hc hz hRc hRs hB hL hW hS hlv (by simpa [xok] using hst) hl)
theorem vs_ldcs {i b : Nat} (hd : decode (xby mi) pc = .ok (.ldc i, 2)) (hb : b < 3) (e1 : (mt mi).1.cls = (xsk b).1) (e2 : i = (xsk b).2.1) (h : V d c z mi (pc + 2) lv (.inr (.inr (75, b)) :: st) S Q) : V d c z mi pc lv st S Q := by
  intro p l e R s m args below meth c0 H locs ls cells slots mc ms D B L0 L C hc hz hRc hRs hB hL hW hS hlv hst hl
  subst e2
  exact va_ldcS C.1 C.2.1 C.2.2.2.2.1 (by rw [e1]; exact hW.2.2.2.2.2.2 b hb) hd (h p l e R s m args below meth c0 H locs ls cells slots mc ms D B L0 L C hc hz hRc hRs hB hL hW hS hlv (fun u hu => by rcases List.mem_cons.mp hu with e | hu; rw [e]; exact hb; exact hst u hu) hl)

theorem xm_max : Cond.static Lib.Math.max.name ∈ xT ∧ Cond.initialized "java/lang/Math" ∈ xT ∧ Cond.code Lib.Math.max.name Lib.Math.max.code 2 (some .int) ∈ xT := ⟨xwd_mem (i := 534) (by decide +kernel), xwd_mem (i := 87) (by decide +kernel), xwd_mem (i := 535) (by decide +kernel)⟩
theorem vs_max {idx : Nat} {x y : Int32} (hd : decode (xby mi) pc = .ok (.invokestatic idx, 3)) (hlk : Cond.methodLink (mt mi).1.cls idx Lib.Math.max.name ∈ xT) (hct : xcs st ≤ 8) (h : V (d + 1) c z mi (pc + 3) lv (.inl (if x < y then y else x) :: st) S Q) : V (d + 1) c z mi pc lv (.inl y :: .inl x :: st) S Q := by
  intro p l e R s m args below meth c0 H locs ls cells slots mc ms D B L0 L C hc hz hRc hRs hB hL hW hS hlv hst hl
  have hts := C.2.2.2.2.2.1
  have h9 := C.2.2.2.2.2.2.2.2
  exact va_mmax C.1 C.2.1 (C.2.2.2.1.trans hl.1.symm) C.2.2.2.2.1 (hts _ hlk) (hts _ xm_max.1) (hts _ xm_max.2.1) (hts _ xm_max.2.2) (by have := C.2.2.2.2.2.2.2.1; omega) (by rw [xcs_eq]; omega) (by omega) (by omega) hd (h p l e R s m args below meth c0 H locs ls cells slots mc ms D B L0 L C hc hz hRc hRs hB hL hW hS hlv (by simpa [xok] using hst) hl)
theorem xm_min : Cond.static Lib.Math.min.name ∈ xT ∧ Cond.initialized "java/lang/Math" ∈ xT ∧ Cond.code Lib.Math.min.name Lib.Math.min.code 2 (some .int) ∈ xT := ⟨xwd_mem (i := 537) (by decide +kernel), xwd_mem (i := 87) (by decide +kernel), xwd_mem (i := 538) (by decide +kernel)⟩
theorem vs_min {idx : Nat} {x y : Int32} (hd : decode (xby mi) pc = .ok (.invokestatic idx, 3)) (hlk : Cond.methodLink (mt mi).1.cls idx Lib.Math.min.name ∈ xT) (hct : xcs st ≤ 8) (h : V (d + 1) c z mi (pc + 3) lv (.inl (if y < x then y else x) :: st) S Q) : V (d + 1) c z mi pc lv (.inl y :: .inl x :: st) S Q := by
  intro p l e R s m args below meth c0 H locs ls cells slots mc ms D B L0 L C hc hz hRc hRs hB hL hW hS hlv hst hl
  have hts := C.2.2.2.2.2.1
  have h9 := C.2.2.2.2.2.2.2.2
  exact va_mmin C.1 C.2.1 (C.2.2.2.1.trans hl.1.symm) C.2.2.2.2.1 (hts _ hlk) (hts _ xm_min.1) (hts _ xm_min.2.1) (hts _ xm_min.2.2) (by have := C.2.2.2.2.2.2.2.1; omega) (by rw [xcs_eq]; omega) (by omega) (by omega) hd (h p l e R s m args below meth c0 H locs ls cells slots mc ms D B L0 L C hc hz hRc hRs hB hL hW hS hlv (by simpa [xok] using hst) hl)
theorem xm_abs : Cond.static Lib.Math.abs.name ∈ xT ∧ Cond.initialized "java/lang/Math" ∈ xT ∧ Cond.code Lib.Math.abs.name Lib.Math.abs.code 1 (some .int) ∈ xT := ⟨xwd_mem (i := 774) (by decide +kernel), xwd_mem (i := 87) (by decide +kernel), xwd_mem (i := 775) (by decide +kernel)⟩
theorem vs_abs {idx : Nat} {x : Int32} (hd : decode (xby mi) pc = .ok (.invokestatic idx, 3)) (hlk : Cond.methodLink (mt mi).1.cls idx Lib.Math.abs.name ∈ xT) (hct : xcs st ≤ 8) (h : V (d + 1) c z mi (pc + 3) lv (.inl (if 0 ≤ x then x else 0 - x) :: st) S Q) : V (d + 1) c z mi pc lv (.inl x :: st) S Q := by
  intro p l e R s m args below meth c0 H locs ls cells slots mc ms D B L0 L C hc hz hRc hRs hB hL hW hS hlv hst hl
  have hts := C.2.2.2.2.2.1
  have h9 := C.2.2.2.2.2.2.2.2
  exact va_mabs C.1 C.2.1 (C.2.2.2.1.trans hl.1.symm) C.2.2.2.2.1 (hts _ hlk) (hts _ xm_abs.1) (hts _ xm_abs.2.1) (hts _ xm_abs.2.2) (by have := C.2.2.2.2.2.2.2.1; omega) (by rw [xcs_eq]; omega) (by omega) (by omega) hd (h p l e R s m args below meth c0 H locs ls cells slots mc ms D B L0 L C hc hz hRc hRs hB hL hW hS hlv (by simpa [xok] using hst) hl)
theorem xm_copy : Cond.native arraycopyName ∈ xT ∧ Cond.static arraycopyName ∈ xT ∧ Cond.initialized "java/lang/System" ∈ xT := ⟨xwd_mem (i := 658) (by decide +kernel), xwd_mem (i := 657) (by decide +kernel), xwd_mem (i := 89) (by decide +kernel)⟩
/-! arraycopy of ints from one array to another -/
def xcpy (S : xS) (k0 i0 sp k i dp n : Nat) : xS := (fun k' i' j' => if k' = k ∧ i' = i ∧ dp ≤ j' ∧ j' < dp + n then S.1 k0 i0 (sp + (j' - dp)) else S.1 k' i' j', S.2)
theorem xcpy_off (S : xS) (k0 i0 sp k i dp n : Nat) : ∀ k' i', ¬ (k' = k ∧ i' = i) → ∀ j', (xcpy S k0 i0 sp k i dp n).1 k' i' j' = S.1 k' i' j' ∧ (xcpy S k0 i0 sp k i dp n).2 k' i' j' = S.2 k' i' j' := fun k' i' h j' => ⟨if_neg (fun q => h ⟨q.1, q.2.1⟩), rfl⟩
theorem vs_copy {idx k0 i0 n0 r0 k i n1 r1 : Nat} {sp dp n : Int32} (hd : decode (xby mi) pc = .ok (.invokestatic idx, 3)) (hlk : Cond.methodLink (mt mi).1.cls idx arraycopyName ∈ xT) (hct : xcs st ≤ 8) (hsh0 : xsh k0 = .inr (.int, n0, r0)) (hsh : xsh k = .inr (.int, n1, r1)) (hne : Nat.beq n1 65536 = false) (hro0 : xro k0 = false) (hro : xro k = false)
    (h1 : ¬ sp < 0) (h2 : ¬ dp < 0) (h3 : ¬ n < 0) (h4 : sp.toNatClampNeg + n.toNatClampNeg ≤ xlen S k0 i0 n0) (h5 : dp.toNatClampNeg + n.toNatClampNeg ≤ n1)
    (h : V (d + 1) c z mi (pc + 3) lv st (xcpy S k0 i0 sp.toNatClampNeg k i dp.toNatClampNeg n.toNatClampNeg) Q) : V (d + 1) c z mi pc lv (.inl n :: .inl dp :: .inr (.inr (k, i)) :: .inl sp :: .inr (.inr (k0, i0)) :: st) S Q := by
  intro p l e R s m args below meth c0 H locs ls cells slots mc ms D B L0 L C hc hz hRc hRs hB hL hW hS hlv hst hl
  have hi0 : i0 < xcn L k0 := hst (.inr (.inr (k0, i0))) (by simp)
  have hi : i < xcn L k := hst (.inr (.inr (k, i))) (by simp)
  have hts := C.2.2.2.2.2.1
  have hfr := C.2.2.2.2.2.2.2.1
  have hlo := C.2.2.2.2.2.2.2.2
  obtain ⟨cA0, ⟨ha0, -⟩, hh0⟩ := xcell_a (hW.2.1 k0 i0 hi0) hsh0 hro0
  obtain ⟨cA1, ⟨ha1, hr1⟩, hh1⟩ := xcell_a (hW.2.1 k i hi) hsh hro
  have hx : ∀ S0 : xS, xlen S0 k i n1 = n1 := fun S0 => by unfold xlen; rw [hne]; rfl
  rw [hx] at hh1
  have nn : ∀ z : Int32, ¬ z < 0 → z.toInt = (z.toNatClampNeg : Int) := by
    intro z hz
    have hz0 : (0 : Int) ≤ z.toInt := by
      have := Int32.not_lt.mp hz
      simpa using Int32.le_iff_toInt_le.mp this
    show z.toInt = ((z.toInt.toNat : Nat) : Int)
    omega
  have hc0 : H[L k0 i0]? = some (vp_cell cA0 (xlen S k0 i0 n0, .inl (fun j => S.1 k0 i0 j))) := hh0
  have hc1 : H[L k i]? = some (vp_cell cA1 (n1, .inl (fun j => S.1 k i j))) := hh1
  intro T hT X
  obtain ⟨-, kk0, hk0, cm0, hkk0⟩ := ha0 (xlen S k0 i0 n0) (fun j => .int (S.1 k0 i0 j))
  obtain ⟨-, kk1, hk1, cm1, hkk1⟩ := ha1 n1 (fun j => .int (S.1 k i j))
  obtain ⟨vm', X', step⟩ := X.arraycopy C.1 C.2.2.2.2.1 (hts _ hlk) (hts _ xm_copy.1) (hts _ xm_copy.2.1) (hts _ xm_copy.2.2) (src := L k0 i0) (dst := L k i) (cs := vp_cell cA0 (xlen S k0 i0 n0, .inl (fun j => S.1 k0 i0 j))) (cd := vp_cell cA1 (n1, .inl (fun j => S.1 k i j))) (srcPos := sp) (destPos := dp) (n := n) (by rw [hT]; exact hc0) (by rw [hT]; exact hc1)
    (fun _ h => by cases h) (fun _ h => by cases h) (fun h => by cases h) (fun h => by cases h) hk0 hk1 hkk0 hkk1 (by simp [refKind]) h1 h2 h3
    (by rw [nn sp h1, nn n h3]; show ¬ _ > ((arrV cA0 (xlen S k0 i0 n0) (fun j => .int (S.1 k0 i0 j))).slots.size : Int); rw [arrV_size]; omega)
    (by rw [nn dp h2, nn n h3]; show ¬ _ > ((arrV cA1 n1 (fun j => .int (S.1 k i j))).slots.size : Int); rw [arrV_size]; omega)
    (fun vm₁ _ q hq => by
      have e : (vp_cell cA0 (xlen S k0 i0 n0, .inl (fun j => S.1 k0 i0 j))).slots.getD (sp.toNatClampNeg + q) .null = .int (S.1 k0 i0 (sp.toNatClampNeg + q)) := by
        show (arrV cA0 (xlen S k0 i0 n0) (fun j => .int (S.1 k0 i0 j))).slots.getD _ _ = _
        rw [Array.getD_eq_getD_getElem?, arrV_read _ _ (by omega)]
        rfl
      refine ⟨?_, ?_⟩
      · rw [e]
        rfl
      · rw [e]
        exact trivial)
    (g := F0 m pc ls (.int n :: .int dp :: .ref (L k i) :: .int sp :: .ref (L k0 i0) :: st.map (xcv L))) rfl (by rw [C.2.2.2.1]; exact hl.1) (rest := st.map (xcv L)) rfl (by rw [C.2.1]; exact hd) (by omega) (by rw [xcs_eq]; show 2 * 0 + xcs st + (7 + 11) ≤ _; omega)
  have e1 : copied (vp_cell cA0 (xlen S k0 i0 n0, .inl (fun j => S.1 k0 i0 j))) (vp_cell cA1 (n1, .inl (fun j => S.1 k i j))) sp dp n = vp_cell cA1 (n1, .inl (va_cpy (fun j => S.1 k0 i0 j) (fun j => S.1 k i j) sp.toNatClampNeg dp.toNatClampNeg n.toNatClampNeg)) := va_copied (fun z => .int z) cA0 cA1 (fun j => S.1 k0 i0 j) (fun j => S.1 k i j) h4
  rw [e1] at X' step
  have hlt : L k i < H.size := (Array.getElem?_eq_some_iff.mp hc1).1
  generalize hcl : vp_cell cA1 (n1, .inl (va_cpy (fun j => S.1 k0 i0 j) (fun j => S.1 k i j) sp.toNatClampNeg dp.toNatClampNeg n.toNatClampNeg)) = cl1 at X' step
  have hheap : ((T.setVm vm').setCell (L k i) cl1).heap = H.setIfInBounds (L k i) cl1 := by rw [← hT]; rfl
  have oq : ∀ q : Nat, q ≠ L k i → (H.setIfInBounds (L k i) cl1)[q]? = H[q]? := fun q hq => by simp [Array.getElem?_setIfInBounds, Ne.symm hq]
  have hcell : xcell s D L (xcpy S k0 i0 sp.toNatClampNeg k i dp.toNatClampNeg n.toNatClampNeg) k i (H.setIfInBounds (L k i) cl1) := by
    unfold xcell
    rw [hsh]
    refine Or.inr ⟨hro, cA1, ⟨ha1, hr1⟩, ?_⟩
    rw [show (H.setIfInBounds (L k i) cl1)[L k i]? = some cl1 by simp [Array.getElem?_setIfInBounds, hlt], ← hcl, hx, vp_cell_i]
    congr 2
    funext j
    simp only [xel, va_cpy, xcpy, true_and]
  obtain ⟨t, a1, b1⟩ := h p l e R s m args below meth c0 _ _ ls cells slots mc ms D B L0 L C hc hz hRc hRs hB hL (hW.upd hi hro hcell oq (xcpy_off S _ _ _ _ _ _ _)) ⟨by simp; exact hS.1, fun q g1 g2 => by
      rw [oq q (fun e => g2 (by rw [e]; exact hW.2.2.2.1 k i hi hro))]
      exact hS.2.1 q g1 g2, fun q hq => by
      rcases List.mem_append.mp hq with h | h
      · exact hS.2.2 q h
      · obtain ⟨z, -, hz⟩ := List.mem_map.mp h
        rw [← hz]
        exact hW.2.2.2.1 k i hi hro⟩ hlv (xtl (xtl (xtl (xtl (xtl hst))))) hl _ hheap X'
  exact ⟨t, step t a1, b1⟩
end XK
end
section
/-! ONE STEP, and many: what must hold for the judgement to hold at pc; it computes -/
abbrev xK : Type := Nat → List (Option xV) → List xV → xS → Prop
abbrev xQ : Type := Option xV → xS → Prop
def xi1 (st : List xV) (f : Int32 → List xV → Prop) : Prop := match st with
  | .inl x :: t => f x t
  | _ => False
def xi2 (st : List xV) (f : Int32 → Int32 → List xV → Prop) : Prop := match st with
  | .inl y :: .inl x :: t => f x y t
  | _ => False
def xj1 (st : List xV) (f : Int64 → List xV → Prop) : Prop := match st with
  | .inr (.inl x) :: t => f x t
  | _ => False
def xj2 (st : List xV) (f : Int64 → Int64 → List xV → Prop) : Prop := match st with
  | .inr (.inl y) :: .inr (.inl x) :: t => f x y t
  | _ => False
def xij (st : List xV) (f : Int64 → Int32 → List xV → Prop) : Prop := match st with
  | .inl y :: .inr (.inl x) :: t => f x y t
  | _ => False
def xp1 (st : List xV) (f : Nat → Nat → List xV → Prop) : Prop := match st with
  | .inr (.inr (k, i)) :: t => f k i t
  | _ => False
def xip (st : List xV) (f : Int32 → Nat → Nat → List xV → Prop) : Prop := match st with
  | .inl j :: .inr (.inr (k, i)) :: t => f j k i t
  | _ => False
def xiip (st : List xV) (f : Int32 → Int32 → Nat → Nat → List xV → Prop) : Prop := match st with
  | .inl x :: .inl j :: .inr (.inr (k, i)) :: t => f x j k i t
  | _ => False
def xjip (st : List xV) (f : Int64 → Int32 → Nat → Nat → List xV → Prop) : Prop := match st with
  | .inr (.inl x) :: .inl j :: .inr (.inr (k, i)) :: t => f x j k i t
  | _ => False
def xcpa (st : List xV) (f : Int32 → Int32 → Nat × Nat → Int32 → Nat × Nat → List xV → Prop) : Prop := match st with
  | .inl n :: .inl dp :: .inr (.inr q) :: .inl sp :: .inr (.inr q0) :: t => f n dp q sp q0 t
  | _ => False
def xgi (o : Option xV) (f : Int32 → Prop) : Prop := match o with
  | some (.inl x) => f x
  | _ => False
def xgj (o : Option xV) (f : Int64 → Prop) : Prop := match o with
  | some (.inr (.inl x)) => f x
  | _ => False
def xgp (o : Option xV) (f : Nat × Nat → Prop) : Prop := match o with
  | some (.inr (.inr x)) => f x
  | _ => False
def xb (b : Bool) (P : Prop) : Prop := match b with
  | true => P
  | false => False
def xsob (s : XS) (f : Nat → List (Option (Nat × Nat × Nat)) → Prop) : Prop := match s with
  | .inl (c, l) => f c l
  | .inr _ => False
def xsar (s : XS) (f : FieldType → Nat → Nat → Prop) : Prop := match s with
  | .inl _ => False
  | .inr (ty, n, rk) => f ty n rk
def xlk : List (Option (Nat × Nat × Nat)) → Nat → (Option (Nat × Nat × Nat) → Prop) → Prop
  | [], _, _ => False
  | o :: _, 0, f => f o
  | _ :: r, b + 1, f => xlk r b f
def xtk : Nat → List xV → List xV → (List xV → List xV → Prop) → Prop
  | 0, st, acc, f => f acc st
  | n + 1, [], _, _ => False
  | n + 1, v :: st, acc, f => xtk n st (v :: acc) f
def xrcv (av : List xV) (f : Nat → Nat → List xV → Prop) : Prop := match av with
  | .inr (.inr (k, i)) :: r => f k i r
  | _ => False
def xsw (K : Nat → Prop) (x : Int32) (dflt : Nat) : List (Int32 × Nat) → Prop
  | [] => K dflt
  | q :: r => (x = q.1 → K q.2) ∧ (¬ x = q.1 → xsw K x dflt r)
def xdn (d : Nat) (f : Nat → Prop) : Prop := match d with
  | 0 => False
  | d + 1 => f d
def xcmp (o : Jvm.ClassFile.Cond) (x y : Int32) (kt kf : Prop) : Prop := match o with
  | .eq => (x = y → kt) ∧ (¬ x = y → kf)
  | .ne => (¬ x = y → kt) ∧ (x = y → kf)
  | .lt => (x < y → kt) ∧ (¬ x < y → kf)
  | .ge => (y ≤ x → kt) ∧ (¬ y ≤ x → kf)
  | .gt => (y < x → kt) ∧ (¬ y < x → kf)
  | .le => (x ≤ y → kt) ∧ (¬ x ≤ y → kf)
def xcall0 (d a : Nat) (lv : List (Option xV)) (S : xS) (av rest : List xV) (K : Option xV → xS → Prop) : Prop := xb (Nat.ble (xcs rest) 8 && lv.all xn8o && rest.all xn8) (CT d 0 0 a av S K)
def stpI (d mi : Nat) (lv : List (Option xV)) (st : List xV) (S : xS) (Q : xQ) (K : xK) (ins : Instr) (a b : Nat) (v : Int32) (w : Int64) (ts : List (Int32 × Nat)) (np : Nat) : Prop := match ins with
  | .iconst _ => K np lv (.inl v :: st) S
  | .bipush _ => K np lv (.inl v :: st) S
  | .sipush _ => K np lv (.inl v :: st) S
  | .ldc _ => match a with
    | 0 => K np lv (.inl v :: st) S
    | 100 => K np lv (.inr (.inr (75, b)) :: st) S
    | _ => False
  | .ldc_w _ => xb (Nat.beq a 0) (K np lv (.inl v :: st) S)
  | .lconst _ => K np lv (.inr (.inl w) :: st) S
  | .ldc2_w _ => K np lv (.inr (.inl w) :: st) S
  | .iload _ => xgi (xget lv a) fun x => K np lv (.inl x :: st) S
  | .iload_n _ => xgi (xget lv a) fun x => K np lv (.inl x :: st) S
  | .lload _ => xgj (xget lv a) fun x => K np lv (.inr (.inl x) :: st) S
  | .lload_n _ => xgj (xget lv a) fun x => K np lv (.inr (.inl x) :: st) S
  | .aload _ => xgp (xget lv a) fun x => K np lv (.inr (.inr x) :: st) S
  | .aload_n _ => xgp (xget lv a) fun x => K np lv (.inr (.inr x) :: st) S
  | .istore _ => xi1 st fun x t => K np (xset lv a (.inl x)) t S
  | .istore_n _ => xi1 st fun x t => K np (xset lv a (.inl x)) t S
  | .lstore _ => xj1 st fun x t => K np (xset lv a (.inr (.inl x))) t S
  | .lstore_n _ => xj1 st fun x t => K np (xset lv a (.inr (.inl x))) t S
  | .astore _ => xp1 st fun k i t => K np (xset lv a (.inr (.inr (k, i)))) t S
  | .astore_n _ => xp1 st fun k i t => K np (xset lv a (.inr (.inr (k, i)))) t S
  | .iinc _ _ => xgi (xget lv a) fun x => K np (xset lv a (.inl (x + v))) st S
  | .iadd => xi2 st fun x y t => K np lv (.inl (x + y) :: t) S
  | .isub => xi2 st fun x y t => K np lv (.inl (x - y) :: t) S
  | .imul => xi2 st fun x y t => K np lv (.inl (x * y) :: t) S
  | .iand => xi2 st fun x y t => K np lv (.inl (x &&& y) :: t) S
  | .ishr => xi2 st fun x y t => K np lv (.inl (x >>> (y &&& 31)) :: t) S
  | .idiv => xi2 st fun x y t => ¬ y = 0 ∧ K np lv (.inl (x / y) :: t) S
  | .irem => xi2 st fun x y t => ¬ y = 0 ∧ K np lv (.inl (x - x / y * y) :: t) S
  | .ineg => xi1 st fun x t => K np lv (.inl (-x) :: t) S
  | .ladd => xj2 st fun x y t => K np lv (.inr (.inl (x + y)) :: t) S
  | .lsub => xj2 st fun x y t => K np lv (.inr (.inl (x - y)) :: t) S
  | .lmul => xj2 st fun x y t => K np lv (.inr (.inl (x * y)) :: t) S
  | .land => xj2 st fun x y t => K np lv (.inr (.inl (x &&& y)) :: t) S
  | .lor => xj2 st fun x y t => K np lv (.inr (.inl (x ||| y)) :: t) S
  | .ldiv => xj2 st fun x y t => ¬ y = 0 ∧ K np lv (.inr (.inl (x / y)) :: t) S
  | .lcmp => xj2 st fun x y t => K np lv (.inl (lg_cmp x y) :: t) S
  | .lshl => xij st fun x y t => K np lv (.inr (.inl (x <<< (y.toInt64 &&& 63))) :: t) S
  | .lshr => xij st fun x y t => K np lv (.inr (.inl (x >>> (y.toInt64 &&& 63))) :: t) S
  | .i2l => xi1 st fun x t => K np lv (.inr (.inl x.toInt64) :: t) S
  | .l2i => xj1 st fun x t => K np lv (.inl x.toInt32 :: t) S
  | .i2b => xi1 st fun x t => K np lv (.inl x.toInt8.toInt32 :: t) S
  | .i2s => xi1 st fun x t => K np lv (.inl x.toInt16.toInt32 :: t) S
  | .i2c => xi1 st fun x t => K np lv (.inl (x.toUInt32 % 65536).toInt32 :: t) S
  | .dup => match st with
    | u :: t => xb (!xlong (some u)) (K np lv (u :: u :: t) S)
    | _ => False
  | .dup2 => match st with
    | u :: u2 :: t => xb (!xlong (some u) && !xlong (some u2)) (K np lv (u :: u2 :: u :: u2 :: t) S)
    | _ => False
  | .pop => match st with
    | u :: t => xb (!xlong (some u)) (K np lv t S)
    | _ => False
  | .ifCond o _ => xi1 st fun x t => xcmp o x 0 (K a lv t S) (K np lv t S)
  | .if_icmp o _ => xi2 st fun x y t => xcmp o x y (K a lv t S) (K np lv t S)
  | .goto _ => K a lv st S
  | .tableswitch _ _ _ _ => xi1 st fun x t => xsw (fun p => K p lv t S) x a ts
  | .lookupswitch _ _ => xi1 st fun x t => xsw (fun p => K p lv t S) x a ts
  | .getfield _ => xp1 st fun k i t => xsob (xsh k) fun ci sl => xb (Nat.beq ci a) (xlk sl b fun o => K np lv (xfv S k i b o :: t) S)
  | .putfield _ => xip st fun x k i t => xsob (xsh k) fun ci sl => xb (Nat.beq ci a && !xro k) (xlk sl b fun o => match o with
    | some _ => False
    | none => match ts with
      | [] => K np lv t (xupd S k i b x)
      | _ :: _ => (x = 0 ∨ x = 1) ∧ K np lv t (xupd S k i b x))
  | .getstatic _ => match a with
    | 34 => K np lv (.inr (.inr (34, 0)) :: st) S
    | 2 => K np lv (.inl 1 :: st) S
    | _ => False
  | .iaload => xip st fun j k i t => xsar (xsh k) fun ty n _ => match ty with
    | .int => vp_in j (xlen S k i n) ∧ K np lv (.inl (S.1 k i j.toNatClampNeg) :: t) S
    | _ => False
  | .baload => xip st fun j k i t => xsar (xsh k) fun ty n _ => match ty with
    | .byte => vp_in j (xlen S k i n) ∧ K np lv (.inl (S.1 k i j.toNatClampNeg) :: t) S
    | .boolean => vp_in j (xlen S k i n) ∧ K np lv (.inl (S.1 k i j.toNatClampNeg) :: t) S
    | _ => False
  | .caload => xip st fun j k i t => xsar (xsh k) fun ty n _ => match ty with
    | .char => vp_in j (xlen S k i n) ∧ K np lv (.inl (S.1 k i j.toNatClampNeg) :: t) S
    | _ => False
  | .laload => xip st fun j k i t => xsar (xsh k) fun ty n _ => match ty with
    | .long => vp_in j (xlen S k i n) ∧ K np lv (.inr (.inl (S.2 k i j.toNatClampNeg)) :: t) S
    | _ => False
  | .aaload => xip st fun j k i t => xsar (xsh k) fun ty n rk => match ty with
    | .object _ => xb (!(Nat.beq n 65536)) (vp_in j n ∧ K np lv (.inr (.inr (rk, j.toNatClampNeg)) :: t) S)
    | _ => False
  | .arraylength => xp1 st fun k i t => xsar (xsh k) fun _ n _ => K np lv (.inl (Int32.ofNat (xlen S k i n)) :: t) S
  | .iastore => xiip st fun x j k i t => xsar (xsh k) fun ty n _ => xb (!(Nat.beq n 65536) && !xro k) (match ty with
    | .int => vp_in j n ∧ K np lv t (xupd S k i j.toNatClampNeg x)
    | _ => False)
  | .bastore => xiip st fun x j k i t => xsar (xsh k) fun ty n _ => xb (!(Nat.beq n 65536) && !xro k) (match ty with
    | .byte => vp_in j n ∧ K np lv t (xupd S k i j.toNatClampNeg (vp_nar .byte x))
    | .boolean => vp_in j n ∧ K np lv t (xupd S k i j.toNatClampNeg (vp_nar .boolean x))
    | _ => False)
  | .lastore => xjip st fun x j k i t => xsar (xsh k) fun ty n _ => xb (!(Nat.beq n 65536) && !xro k) (match ty with
    | .long => vp_in j n ∧ K np lv t (xupl S k i j.toNatClampNeg x)
    | _ => False)
  | .ireturn => match st with
    | [.inl x] => match a with
      | 0 => Q (some (.inl x)) S
      | 1 => (x = 0 ∨ x = 1) ∧ Q (some (.inl x)) S
      | 3 => narrow .char (.int x) = .int x ∧ Q (some (.inl x)) S
      | 4 => narrow .byte (.int x) = .int x ∧ Q (some (.inl x)) S
      | _ => False
    | _ => False
  | .lreturn => match st with
    | [.inr (.inl x)] => Q (some (.inr (.inl x))) S
    | _ => False
  | .return_ => match st with
    | [] => Q none S
    | _ => False
  | .invokestatic _ => xdn d fun d' => match Nat.ble 997 a with
    | false => xtk b st [] fun av rest => xcall0 d' a lv S av rest (fun r S' => K np lv (r.toList ++ rest) S')
    | true => match a with
      | 1000 => xcpa st fun n dp q sp q0 t => xb (Nat.ble (xcs t) 8 && (!xro q0.1 && !xro q.1)) (xsar (xsh q0.1) fun ty0 n0 _ => xsar (xsh q.1) fun ty n1 _ => xb (!(Nat.beq n1 65536)) (match ty0 with
        | .int => match ty with
          | .int => ¬ sp < 0 ∧ ¬ dp < 0 ∧ ¬ n < 0 ∧ sp.toNatClampNeg + n.toNatClampNeg ≤ xlen S q0.1 q0.2 n0 ∧ dp.toNatClampNeg + n.toNatClampNeg ≤ n1 ∧ K np lv t (xcpy S q0.1 q0.2 sp.toNatClampNeg q.1 q.2 dp.toNatClampNeg n.toNatClampNeg)
          | _ => False
        | _ => False))
      | 1001 => xi2 st fun x y t => xb (Nat.ble (xcs t) 8) (K np lv (.inl (if x < y then y else x) :: t) S)
      | 1002 => xi2 st fun x y t => xb (Nat.ble (xcs t) 8) (K np lv (.inl (if y < x then y else x) :: t) S)
      | 1003 => xi1 st fun x t => xb (Nat.ble (xcs t) 8) (K np lv (.inl (if 0 ≤ x then x else 0 - x) :: t) S)
      | _ => False
  | .invokevirtual _ => xdn d fun d' => xtk b st [] fun av rest => xrcv av fun k i av' => xsob (xsh k) fun ci _ => xb (!(Nat.ble 997 a) && Nat.beq ci (mt a).2.2.2.2.2.2.2.2.2.2) (xcall0 d' a lv S (.inr (.inr (k, i)) :: av') rest (fun r S' => K np lv (r.toList ++ rest) S'))
  | _ => False
def stp (d mi pc : Nat) (lv : List (Option xV)) (st : List xV) (S : xS) (Q : xQ) (K : xK) : Prop := match pg mi pc with
  | (p, ins, len, a, b, v, w, ts, _) => xb (Nat.beq p pc && Nat.ble (p + 1) (mt mi).2.2.1) (stpI d mi lv st S Q K ins a b v w ts (p + len))
end
section
/-! the step is sound -/
theorem xi1_s {st : List xV} {f : Int32 → List xV → Prop} (h : xi1 st f) : ∃ x t, st = .inl x :: t ∧ f x t := by
  unfold xi1 at h; split at h
  · exact ⟨_, _, rfl, h⟩
  · exact h.elim
theorem xi2_s {st : List xV} {f : Int32 → Int32 → List xV → Prop} (h : xi2 st f) : ∃ x y t, st = .inl y :: .inl x :: t ∧ f x y t := by
  unfold xi2 at h; split at h
  · exact ⟨_, _, _, rfl, h⟩
  · exact h.elim
theorem xj1_s {st : List xV} {f : Int64 → List xV → Prop} (h : xj1 st f) : ∃ x t, st = .inr (.inl x) :: t ∧ f x t := by
  unfold xj1 at h; split at h
  · exact ⟨_, _, rfl, h⟩
  · exact h.elim
theorem xj2_s {st : List xV} {f : Int64 → Int64 → List xV → Prop} (h : xj2 st f) : ∃ x y t, st = .inr (.inl y) :: .inr (.inl x) :: t ∧ f x y t := by
  unfold xj2 at h; split at h
  · exact ⟨_, _, _, rfl, h⟩
  · exact h.elim
theorem xij_s {st : List xV} {f : Int64 → Int32 → List xV → Prop} (h : xij st f) : ∃ x y t, st = .inl y :: .inr (.inl x) :: t ∧ f x y t := by
  unfold xij at h; split at h
  · exact ⟨_, _, _, rfl, h⟩
  · exact h.elim
theorem xp1_s {st : List xV} {f : Nat → Nat → List xV → Prop} (h : xp1 st f) : ∃ k i t, st = .inr (.inr (k, i)) :: t ∧ f k i t := by
  unfold xp1 at h; split at h
  · exact ⟨_, _, _, rfl, h⟩
  · exact h.elim
theorem xip_s {st : List xV} {f : Int32 → Nat → Nat → List xV → Prop} (h : xip st f) : ∃ j k i t, st = .inl j :: .inr (.inr (k, i)) :: t ∧ f j k i t := by
  unfold xip at h; split at h
  · exact ⟨_, _, _, _, rfl, h⟩
  · exact h.elim
theorem xiip_s {st : List xV} {f : Int32 → Int32 → Nat → Nat → List xV → Prop} (h : xiip st f) : ∃ x j k i t, st = .inl x :: .inl j :: .inr (.inr (k, i)) :: t ∧ f x j k i t := by
  unfold xiip at h; split at h
  · exact ⟨_, _, _, _, _, rfl, h⟩
  · exact h.elim
theorem xjip_s {st : List xV} {f : Int64 → Int32 → Nat → Nat → List xV → Prop} (h : xjip st f) : ∃ x j k i t, st = .inr (.inl x) :: .inl j :: .inr (.inr (k, i)) :: t ∧ f x j k i t := by
  unfold xjip at h; split at h
  · exact ⟨_, _, _, _, _, rfl, h⟩
  · exact h.elim
theorem xcpa_s {st : List xV} {f : Int32 → Int32 → Nat × Nat → Int32 → Nat × Nat → List xV → Prop} (h : xcpa st f) : ∃ n dp q sp q0 t, st = .inl n :: .inl dp :: .inr (.inr q) :: .inl sp :: .inr (.inr q0) :: t ∧ f n dp q sp q0 t := by
  unfold xcpa at h; split at h
  · exact ⟨_, _, _, _, _, _, rfl, h⟩
  · exact h.elim
theorem xgi_s {o : Option xV} {f : Int32 → Prop} (h : xgi o f) : ∃ x, o = some (.inl x) ∧ f x := by
  unfold xgi at h; split at h
  · exact ⟨_, rfl, h⟩
  · exact h.elim
theorem xgj_s {o : Option xV} {f : Int64 → Prop} (h : xgj o f) : ∃ x, o = some (.inr (.inl x)) ∧ f x := by
  unfold xgj at h; split at h
  · exact ⟨_, rfl, h⟩
  · exact h.elim
theorem xgp_s {o : Option xV} {f : Nat × Nat → Prop} (h : xgp o f) : ∃ x, o = some (.inr (.inr x)) ∧ f x := by
  unfold xgp at h; split at h
  · exact ⟨_, rfl, h⟩
  · exact h.elim
theorem xb_s {b : Bool} {P : Prop} (h : xb b P) : b = true ∧ P := by
  cases b
  · exact h.elim
  · exact ⟨rfl, h⟩
theorem xsob_s {s : XS} {f : Nat → List (Option (Nat × Nat × Nat)) → Prop} (h : xsob s f) : ∃ ci sl, s = .inl (ci, sl) ∧ f ci sl := by
  unfold xsob at h; split at h
  · exact ⟨_, _, rfl, h⟩
  · exact h.elim
theorem xsar_s {s : XS} {f : FieldType → Nat → Nat → Prop} (h : xsar s f) : ∃ ty n rk, s = .inr (ty, n, rk) ∧ f ty n rk := by
  unfold xsar at h; split at h
  · exact h.elim
  · exact ⟨_, _, _, rfl, h⟩
theorem xlk_s {f : Option (Nat × Nat × Nat) → Prop} : ∀ {sl : List (Option (Nat × Nat × Nat))} {b : Nat}, xlk sl b f → ∃ o, sl[b]? = some o ∧ f o
  | [], _, h => h.elim
  | o :: _, 0, h => ⟨o, rfl, h⟩
  | _ :: r, b + 1, h => by
    obtain ⟨o, h1, h2⟩ := xlk_s (sl := r) (b := b) h
    exact ⟨o, by simpa using h1, h2⟩
theorem xtk_s {f : List xV → List xV → Prop} : ∀ {n : Nat} {st acc : List xV}, xtk n st acc f → ∃ av rest, st = av.reverse ++ rest ∧ av.length = n ∧ f (av ++ acc) rest
  | 0, st, acc, h => ⟨[], st, rfl, rfl, h⟩
  | n + 1, [], acc, h => h.elim
  | n + 1, v :: st, acc, h => by
    obtain ⟨av, rest, h1, h2, h3⟩ := xtk_s (n := n) (st := st) (acc := v :: acc) h
    exact ⟨av ++ [v], rest, by simp [h1], by simp [h2], by simpa using h3⟩
theorem xrcv_s {av : List xV} {f : Nat → Nat → List xV → Prop} (h : xrcv av f) : ∃ k i r, av = .inr (.inr (k, i)) :: r ∧ f k i r := by
  unfold xrcv at h; split at h
  · exact ⟨_, _, _, rfl, h⟩
  · exact h.elim
theorem xsw_s {K : Nat → Prop} {x : Int32} {dflt : Nat} : ∀ {ts : List (Int32 × Nat)}, xsw K x dflt ts → (∃ (j : Nat) (q : Int32 × Nat), ts[j]? = some q ∧ x = q.1 ∧ (∀ (i : Nat) (p : Int32 × Nat), i < j → ts[i]? = some p → ¬ x = p.1) ∧ K q.2) ∨ ((∀ q ∈ ts, ¬ x = q.1) ∧ K dflt)
  | [], h => Or.inr ⟨fun _ h => (by cases h), h⟩
  | q :: r, h => by
    by_cases hx : x = q.1
    · exact Or.inl ⟨0, q, rfl, hx, fun i p hi => absurd hi (Nat.not_lt_zero i), h.1 hx⟩
    · rcases xsw_s (ts := r) (h.2 hx) with ⟨j, q2, h1, h2, h4, h3⟩ | ⟨h1, h2⟩
      · refine Or.inl ⟨j + 1, q2, by simpa using h1, h2, fun i p hi hp => ?_, h3⟩
        cases i with
        | zero => simp at hp; rw [← hp]; exact hx
        | succ i => exact h4 i p (by omega) (by simpa using hp)
      · exact Or.inr ⟨fun p hp => by
          rcases List.mem_cons.mp hp with e | hp
          · rw [e]; exact hx
          · exact h1 p hp, h2⟩
theorem xdn_s {d : Nat} {f : Nat → Prop} (h : xdn d f) : ∃ d', d = d' + 1 ∧ f d' := by
  cases d with
  | zero => exact h.elim
  | succ d => exact ⟨d, rfl, h⟩
def xtbl (pc a : Nat) (dflt lo hi : Int) (offs : List Int) (ts : List (Int32 × Nat)) : Bool :=
  Nat.beq ts.length offs.length && decide (hi = lo + offs.length - 1) && decide ((pc : Int) + dflt = (a : Int)) && (List.range offs.length).all (fun j => match ts[j]?, offs[j]? with
    | some q, some o => decide (q.1.toInt = lo + j) && decide ((pc : Int) + o = (q.2 : Int))
    | _, _ => false)
def xlkp (pc a : Nat) (dflt : Int) (ps : List (Int × Int)) (ts : List (Int32 × Nat)) : Bool :=
  Nat.beq ts.length ps.length && decide ((pc : Int) + dflt = (a : Int)) && (ps.zip (ps.drop 1)).all (fun (a, next) => a.1 < next.1) && (List.range ps.length).all (fun j => match ts[j]?, ps[j]? with
    | some q, some o => decide (q.1.toInt = o.1) && decide ((pc : Int) + o.2 = (q.2 : Int))
    | _, _ => false)
def xfl1 (mi idx a b wi : Nat) (v : Int32) : Bool := match classes[a]? with
  | some q => Nat.ble (b + 1) q.2.2 && (bif decide (v = 0) then xwd wi (.fieldLink (mt mi).1.cls idx (q.2.1 b).1 (q.2.1 b).2.1 (q.2.1 b).2.2.1) else xwn wi (.fieldLinkNest (mt mi).1.cls idx (q.2.1 b).1 (q.2.1 b).2.1 (q.2.1 b).2.2.1 "MonsoonTrade"))
  | none => false
def xfl2 (a b : Nat) (ts : List (Int32 × Nat)) : Bool := match classes[a]? with
  | some q => decide ((q.2.1 b).2.2.2 = false) && decide (parseFieldDescriptor (q.2.1 b).2.2.1 = some (bif ts.isEmpty then .int else .boolean))
  | none => false
def xml1 (mi idx a wi : Nat) (v : Int32) : Bool := Nat.ble (a + 1) 201 && (bif decide (v = 0) then xwd wi (.methodLink (mt mi).1.cls idx (mt a).1) else xwn wi (.methodLinkNest (mt mi).1.cls idx (mt a).1 "MonsoonTrade"))
def okO (mi pc : Nat) (ins : Instr) (len a b : Nat) (v : Int32) (w : Int64) (ts : List (Int32 × Nat)) (wi : Nat) : Bool := match ins with
  | .iconst n => Nat.beq len 1 && decide (Int32.ofInt n = v)
  | .bipush n => Nat.beq len 2 && decide ((Int8.ofInt n).toInt32 = v)
  | .sipush n => Nat.beq len 3 && decide ((Int16.ofInt n).toInt32 = v)
  | .ldc i => Nat.beq len 2 && (match a with
    | 0 => xwd wi (.constant (mt mi).1.cls i v)
    | 100 => Nat.ble (b + 1) 3 && (decide ((mt mi).1.cls = (xsk b).1) && decide (i = (xsk b).2.1))
    | _ => true)
  | .ldc_w i => Nat.beq len 3 && (!(Nat.beq a 0) || xwd wi (.constant (mt mi).1.cls i v))
  | .lconst n => Nat.beq len 1 && decide (Int64.ofNat (n : Nat) = w)
  | .ldc2_w i => Nat.beq len 3 && xwd wi (.constantLong (mt mi).1.cls i w)
  | .iload i => Nat.beq len 2 && Nat.beq i a
  | .lload i => Nat.beq len 2 && Nat.beq i a
  | .aload i => Nat.beq len 2 && Nat.beq i a
  | .iload_n k => Nat.beq len 1 && Nat.beq k a
  | .lload_n k => Nat.beq len 1 && Nat.beq k a
  | .aload_n k => Nat.beq len 1 && Nat.beq k a
  | .istore i => Nat.beq len 2 && Nat.beq i a && Nat.ble (a + 1) (xml mi)
  | .astore i => Nat.beq len 2 && Nat.beq i a && Nat.ble (a + 1) (xml mi)
  | .lstore i => Nat.beq len 2 && Nat.beq i a && Nat.ble (a + 2) (xml mi)
  | .istore_n k => Nat.beq len 1 && Nat.beq k a && Nat.ble (a + 1) (xml mi)
  | .astore_n k => Nat.beq len 1 && Nat.beq k a && Nat.ble (a + 1) (xml mi)
  | .lstore_n k => Nat.beq len 1 && Nat.beq k a && Nat.ble (a + 2) (xml mi)
  | .iinc i n => Nat.beq len 3 && Nat.beq i a && Nat.ble (a + 1) (xml mi) && decide (Int32.ofInt n = v)
  | .ifCond _ off => Nat.beq len 3 && decide ((pc : Int) + off = (a : Int))
  | .if_icmp _ off => Nat.beq len 3 && decide ((pc : Int) + off = (a : Int))
  | .goto off => decide ((pc : Int) + off = (a : Int)) && Nat.beq len 3
  | .tableswitch dflt lo hi offs => xtbl pc a dflt lo hi offs.toList ts
  | .lookupswitch dflt ps => xlkp pc a dflt ps.toList ts
  | .getfield i => Nat.beq len 3 && (bif Nat.beq a 99 then xwd wi (.fieldLink (mt mi).1.cls i "java/lang/String" (bif Nat.beq b 0 then "value" else "coder") (bif Nat.beq b 0 then "[B" else "B")) else xfl1 mi i a b wi v)
  | .putfield i => Nat.beq len 3 && xfl1 mi i a b wi v && xfl2 a b ts
  | .getstatic i => Nat.beq len 3 && (match a with
    | 34 => xwn wi (.fieldLinkNest (mt mi).1.cls i "MonsoonTrade" "UNDER" "[I" "MonsoonTrade")
    | 2 => xwd wi (.fieldLink (mt mi).1.cls i "java/lang/String" "COMPACT_STRINGS" "Z")
    | _ => true)
  | .ireturn => Nat.beq len 1 && (match a with
    | 0 => decide (xrt mi = some .int)
    | 1 => decide (xrt mi = some .boolean)
    | 3 => decide (xrt mi = some .char)
    | 4 => decide (xrt mi = some .byte)
    | _ => true)
  | .lreturn => Nat.beq len 1 && decide (xrt mi = some .long)
  | .return_ => Nat.beq len 1 && decide (xrt mi = none)
  | .invokestatic i => Nat.beq len 3 && (match a with
    | 1000 => xwd wi (.methodLink (mt mi).1.cls i arraycopyName)
    | 1001 => xwd wi (.methodLink (mt mi).1.cls i Lib.Math.max.name)
    | 1002 => xwd wi (.methodLink (mt mi).1.cls i Lib.Math.min.name)
    | 1003 => xwd wi (.methodLink (mt mi).1.cls i Lib.Math.abs.name)
    | _ => Nat.ble 997 a || (xml1 mi i a wi v && xst a && decide ((parseMethodDescriptor (mt a).1.desc).map (fun d => d.parameters.length) = some b)))
  | .invokevirtual i => Nat.beq len 3 && (Nat.ble 997 a || (xml1 mi i a wi v && !(xst a) && Nat.ble 1 b && decide ((parseMethodDescriptor (mt a).1.desc).map (fun d => d.parameters.length) = some (b - 1)) && (bif Nat.beq (mt a).2.2.2.2.2.2.2.2.2.2 99 then decide ((mt a).1.cls = "java/lang/String") else decide ((classes[(mt a).2.2.2.2.2.2.2.2.2.2]?).map (fun q => q.1) = some (mt a).1.cls))))
  | .new _ => true
  | .invokespecial _ => true
  | .anewarray _ => true
  | .newarray _ => true
  | _ => Nat.beq len 1
end
section
theorem xoff {x : Int32} {d : Int} : ∀ {ps : List (Int × Int)} {ts : List (Int32 × Nat)}, ts.length = ps.length → (∀ (i : Nat) (q : Int32 × Nat) (o : Int × Int), ts[i]? = some q → ps[i]? = some o → q.1.toInt = o.1) → (∀ (j : Nat) (q : Int32 × Nat), ts[j]? = some q → x = q.1 → (∀ (i : Nat) (p : Int32 × Nat), i < j → ts[i]? = some p → ¬ x = p.1) → ∀ o : Int × Int, ps[j]? = some o → Op.lookupswitch.offset ps d x.toInt = o.2) ∧ ((∀ q ∈ ts, ¬ x = q.1) → Op.lookupswitch.offset ps d x.toInt = d)
  | [], [], _, _ => ⟨fun j q h => by simp at h, fun _ => rfl⟩
  | [], t :: ts, h, _ => by simp at h
  | o :: ps, [], h, _ => by simp at h
  | o :: ps, t :: ts, h, hm => by
    have ih := xoff (x := x) (d := d) (ps := ps) (ts := ts) (by simpa using h) (fun i q o h1 h2 => hm (i + 1) q o (by simpa using h1) (by simpa using h2))
    have h0 : t.1.toInt = o.1 := hm 0 t o rfl rfl
    refine ⟨fun j q hj hx hlt p hp => ?_, fun hn => ?_⟩
    · cases j with
      | zero =>
        simp at hj hp
        subst hj; subst hp
        rw [Op.lookupswitch.offset_cons, if_pos (by rw [hx, h0])]
      | succ j =>
        have hne : ¬ x = t.1 := hlt 0 t (by omega) rfl
        rw [show o = (o.1, o.2) from rfl, lv_osw hne h0]
        exact ih.1 j q (by simpa using hj) hx (fun i p hi hp => hlt (i + 1) p (by omega) (by simpa using hp)) p (by simpa using hp)
    · rw [show o = (o.1, o.2) from rfl, lv_osw (hn t List.mem_cons_self) h0]
      exact ih.2 (fun q hq => hn q (List.mem_cons_of_mem _ hq))
theorem xall_at {n : Nat} {f : Nat → Bool} (h : (List.range n).all f = true) {j : Nat} (hj : j < n) : f j = true := List.all_eq_true.mp h j (List.mem_range.mpr hj)
section XS1
variable {d c z mi pc : Nat} {lv : List (Option xV)} {st : List xV} {S : xS} {Q : Option xV → xS → Prop}
theorem vs_table {dflt lo hi : Int} {offs : Array Int} {len a : Nat} {ts : List (Int32 × Nat)} {x : Int32} (hd : decode (xby mi) pc = .ok (.tableswitch dflt lo hi offs, len)) (ho : xtbl pc a dflt lo hi offs.toList ts = true) (h : xsw (fun p => V d c z mi p lv st S Q) x a ts) : V d c z mi pc lv (.inl x :: st) S Q := by
  unfold xtbl at ho
  simp only [Bool.and_eq_true, decide_eq_true_eq] at ho
  obtain ⟨⟨⟨h1, h2⟩, h3⟩, h4⟩ := ho
  have h1 := Nat.eq_of_beq_eq_true h1
  intro p l e R s m args below meth c0 H locs ls cells slots mc ms D B L0 L C hc hz hRc hRs hB hL hW hS hlv hst hl
  rcases xsw_s h with ⟨j, q, hj, hx, -, hk⟩ | ⟨hn, hk⟩
  · have hjl : j < offs.toList.length := by rw [← h1]; exact (List.getElem?_eq_some_iff.mp hj).1
    have h5 := xall_at h4 hjl
    rw [hj] at h5
    cases ho : offs.toList[j]? with
    | none => rw [ho] at h5; cases h5
    | some o =>
      rw [ho] at h5
      simp only [Bool.and_eq_true, decide_eq_true_eq] at h5
      have hxi : x.toInt = lo + j := by rw [hx]; exact h5.1
      refine lv_tableIn C.1 C.2.1 hd (off := o) (by omega) (by omega) ?_ h5.2 (hk p l e R s m args below meth c0 H locs ls cells slots mc ms D B L0 L C hc hz hRc hRs hB hL hW hS hlv (xtl hst) hl)
      rw [show (x.toInt - lo).toNat = j by omega, ← Array.getElem?_toList]
      exact ho
  · refine lv_tableOut C.1 C.2.1 hd ?_ h3 (hk p l e R s m args below meth c0 H locs ls cells slots mc ms D B L0 L C hc hz hRc hRs hB hL hW hS hlv (xtl hst) hl)
    rcases Int.lt_or_le x.toInt lo with q | q
    · exact Or.inl q
    · rcases Int.lt_or_le hi x.toInt with q2 | q2
      · exact Or.inr q2
      · exfalso
        have hjl : (x.toInt - lo).toNat < offs.toList.length := by omega
        have h5 := xall_at h4 hjl
        cases hq : ts[(x.toInt - lo).toNat]? with
        | none => rw [hq] at h5; cases h5
        | some p =>
          cases hq2 : offs.toList[(x.toInt - lo).toNat]? with
          | none => rw [hq, hq2] at h5; cases h5
          | some o =>
            rw [hq, hq2] at h5
            simp only [Bool.and_eq_true, decide_eq_true_eq] at h5
            exact hn p (List.mem_of_getElem? hq) (Int32.toInt_inj.mp (by rw [h5.1]; omega))
theorem vs_look {dflt : Int} {ps : Array (Int × Int)} {len a : Nat} {ts : List (Int32 × Nat)} {x : Int32} (hd : decode (xby mi) pc = .ok (.lookupswitch dflt ps, len)) (ho : xlkp pc a dflt ps.toList ts = true) (h : xsw (fun p => V d c z mi p lv st S Q) x a ts) : V d c z mi pc lv (.inl x :: st) S Q := by
  unfold xlkp at ho
  simp only [Bool.and_eq_true, decide_eq_true_eq] at ho
  obtain ⟨⟨⟨h1, h2⟩, h3⟩, h4⟩ := ho
  have h1 := Nat.eq_of_beq_eq_true h1
  have hb : ∀ (i : Nat) (q : Int32 × Nat) (o : Int × Int), ts[i]? = some q → ps.toList[i]? = some o → q.1.toInt = o.1 ∧ (pc : Int) + o.2 = (q.2 : Int) := fun i q o e1 e2 => by
    have h5 := xall_at h4 (List.getElem?_eq_some_iff.mp e2).1
    rw [e1, e2] at h5
    simpa only [Bool.and_eq_true, decide_eq_true_eq] using h5
  have hx := xoff (x := x) (d := dflt) h1 (fun i q o e1 e2 => (hb i q o e1 e2).1)
  intro p l e R s m args below meth c0 H locs ls cells slots mc ms D B L0 L C hc hz hRc hRs hB hL hW hS hlv hst hl
  rcases xsw_s h with ⟨j, q, hj, hxq, hlt, hk⟩ | ⟨hn, hk⟩
  · have hjl : j < ps.toList.length := by rw [← h1]; exact (List.getElem?_eq_some_iff.mp hj).1
    cases ho : ps.toList[j]? with
    | none => exact absurd hjl (by have := List.getElem?_eq_none_iff.mp ho; omega)
    | some o => exact lv_lookup C.1 C.2.1 hd h3 (hx.1 j q hj hxq hlt o ho) (hb j q o hj ho).2 (hk p l e R s m args below meth c0 H locs ls cells slots mc ms D B L0 L C hc hz hRc hRs hB hL hW hS hlv (xtl hst) hl)
  · exact lv_lookup C.1 C.2.1 hd h3 (hx.2 hn) h2 (hk p l e R s m args below meth c0 H locs ls cells slots mc ms D B L0 L C hc hz hRc hRs hB hL hW hS hlv (xtl hst) hl)
theorem xflk {idx a b wi : Nat} {v : Int32} (h : xfl1 mi idx a b wi v = true) : ∃ (Cn : String) (T : u_T) (N : Nat), classes[a]? = some (Cn, T, N) ∧ b < N ∧ (Cond.fieldLink (mt mi).1.cls idx (T b).1 (T b).2.1 (T b).2.2.1 ∈ xT ∨ Cond.fieldLinkNest (mt mi).1.cls idx (T b).1 (T b).2.1 (T b).2.2.1 "MonsoonTrade" ∈ xN) := by
  unfold xfl1 at h
  split at h
  · rename_i q hq
    simp only [Bool.and_eq_true] at h
    refine ⟨q.1, q.2.1, q.2.2, hq, Nat.le_of_ble_eq_true h.1, ?_⟩
    have h2 := h.2
    cases hv : decide (v = 0) with
    | true => rw [hv] at h2; exact Or.inl (xwd_mem h2)
    | false => rw [hv] at h2; exact Or.inr (xwn_mem h2)
  · cases h
theorem xmlk {idx a wi : Nat} {v : Int32} (h : xml1 mi idx a wi v = true) : a < 201 ∧ (Cond.methodLink (mt mi).1.cls idx (mt a).1 ∈ xT ∨ Cond.methodLinkNest (mt mi).1.cls idx (mt a).1 "MonsoonTrade" ∈ xN) := by
  unfold xml1 at h
  simp only [Bool.and_eq_true] at h
  refine ⟨Nat.le_of_ble_eq_true h.1, ?_⟩
  have h2 := h.2
  cases hv : decide (v = 0) with
  | true => rw [hv] at h2; exact Or.inl (xwd_mem h2)
  | false => rw [hv] at h2; exact Or.inr (xwn_mem h2)
theorem xnz {x : Int32} (h : x = 0 ∨ x = 1) : narrow .boolean (.int x) = .int x ∧ fits .boolean (.int x) = true := by
  rcases h with rfl | rfl <;> exact ⟨by decide, by decide⟩
theorem vs_ifc {o : Jvm.ClassFile.Cond} {x : Int32} {off : Int} {tgt : Nat} (hd : decode (xby mi) pc = .ok (.ifCond o off, 3)) (ht : (pc : Int) + off = (tgt : Int)) (h : xcmp o x 0 (V d c z mi tgt lv st S Q) (V d c z mi (pc + 3) lv st S Q)) : V d c z mi pc lv (.inl x :: st) S Q := by
  cases o
  · exact vs_if_eq hd ht h.1 h.2
  · exact vs_if_ne hd ht h.1 h.2
  · exact vs_if_lt hd ht h.1 h.2
  · exact vs_if_ge hd ht h.1 h.2
  · exact vs_if_gt hd ht h.1 h.2
  · exact vs_if_le hd ht h.1 h.2
theorem vs_icmp {o : Jvm.ClassFile.Cond} {x y : Int32} {off : Int} {tgt : Nat} (hd : decode (xby mi) pc = .ok (.if_icmp o off, 3)) (ht : (pc : Int) + off = (tgt : Int)) (h : xcmp o x y (V d c z mi tgt lv st S Q) (V d c z mi (pc + 3) lv st S Q)) : V d c z mi pc lv (.inl y :: .inl x :: st) S Q := by
  cases o
  · exact vs_icmp_eq hd ht h.1 h.2
  · exact vs_icmp_ne hd ht h.1 h.2
  · exact vs_icmp_lt hd ht h.1 h.2
  · exact vs_icmp_ge hd ht h.1 h.2
  · exact vs_icmp_gt hd ht h.1 h.2
  · exact vs_icmp_le hd ht h.1 h.2
set_option maxHeartbeats 4000000 in
theorem V_stepI (ins : Instr) (len a b : Nat) (v : Int32) (w : Int64) (ts : List (Int32 × Nat)) (wi : Nat) (hd : decode (xby mi) pc = .ok (ins, len)) (ho : okO mi pc ins len a b v w ts wi = true) (h : stpI d mi lv st S Q (fun pc lv st S => V d c z mi pc lv st S Q) ins a b v w ts (pc + len)) : V d c z mi pc lv st S Q := by
  cases ins with
  | iconst n =>
    dsimp only [stpI] at h
    simp only [okO, Bool.and_eq_true, decide_eq_true_eq] at ho
    obtain ⟨h1, h2⟩ := ho
    obtain rfl := Nat.eq_of_beq_eq_true h1
    exact vs_iconst hd h2 h
  | bipush n =>
    dsimp only [stpI] at h
    simp only [okO, Bool.and_eq_true, decide_eq_true_eq] at ho
    obtain ⟨h1, h2⟩ := ho
    obtain rfl := Nat.eq_of_beq_eq_true h1
    exact vs_bipush hd h2 h
  | sipush n =>
    dsimp only [stpI] at h
    simp only [okO, Bool.and_eq_true, decide_eq_true_eq] at ho
    obtain ⟨h1, h2⟩ := ho
    obtain rfl := Nat.eq_of_beq_eq_true h1
    exact vs_sipush hd h2 h
  | lconst n =>
    dsimp only [stpI] at h
    simp only [okO, Bool.and_eq_true, decide_eq_true_eq] at ho
    obtain ⟨h1, h2⟩ := ho
    obtain rfl := Nat.eq_of_beq_eq_true h1
    exact vs_lconst hd h2 h
  | ldc i =>
    dsimp only [stpI] at h
    simp only [okO, Bool.and_eq_true] at ho
    obtain ⟨h1, h2⟩ := ho
    obtain rfl := Nat.eq_of_beq_eq_true h1
    split at h
    · exact vs_ldc hd (xwd_mem h2) h
    · simp only [Bool.and_eq_true, decide_eq_true_eq] at h2
      exact vs_ldcs hd (Nat.le_of_ble_eq_true h2.1) h2.2.1 h2.2.2 h
    · exact h.elim
  | ldc_w i =>
    dsimp only [stpI] at h
    simp only [okO, Bool.and_eq_true, decide_eq_true_eq] at ho
    obtain ⟨h1, h2⟩ := ho
    obtain rfl := Nat.eq_of_beq_eq_true h1
    obtain ⟨ha, g1⟩ := xb_s h
    rw [ha] at h2
    exact vs_ldc_w hd (xwd_mem (by simpa using h2)) g1
  | ldc2_w i =>
    dsimp only [stpI] at h
    simp only [okO, Bool.and_eq_true, decide_eq_true_eq] at ho
    obtain ⟨h1, h2⟩ := ho
    obtain rfl := Nat.eq_of_beq_eq_true h1
    exact vs_ldc2 hd (xwd_mem h2) h
  | iload i =>
    dsimp only [stpI] at h
    simp only [okO, Bool.and_eq_true, decide_eq_true_eq] at ho
    obtain ⟨h1, h2⟩ := ho
    obtain rfl := Nat.eq_of_beq_eq_true h1
    obtain rfl := Nat.eq_of_beq_eq_true h2
    obtain ⟨x, hg, g1⟩ := xgi_s h
    exact vs_iload hd hg g1
  | iload_n k =>
    dsimp only [stpI] at h
    simp only [okO, Bool.and_eq_true, decide_eq_true_eq] at ho
    obtain ⟨h1, h2⟩ := ho
    obtain rfl := Nat.eq_of_beq_eq_true h1
    obtain rfl := Nat.eq_of_beq_eq_true h2
    obtain ⟨x, hg, g1⟩ := xgi_s h
    exact vs_iload_n hd hg g1
  | lload i =>
    dsimp only [stpI] at h
    simp only [okO, Bool.and_eq_true, decide_eq_true_eq] at ho
    obtain ⟨h1, h2⟩ := ho
    obtain rfl := Nat.eq_of_beq_eq_true h1
    obtain rfl := Nat.eq_of_beq_eq_true h2
    obtain ⟨x, hg, g1⟩ := xgj_s h
    exact vs_lload hd hg g1
  | lload_n k =>
    dsimp only [stpI] at h
    simp only [okO, Bool.and_eq_true, decide_eq_true_eq] at ho
    obtain ⟨h1, h2⟩ := ho
    obtain rfl := Nat.eq_of_beq_eq_true h1
    obtain rfl := Nat.eq_of_beq_eq_true h2
    obtain ⟨x, hg, g1⟩ := xgj_s h
    exact vs_lload_n hd hg g1
  | aload i =>
    dsimp only [stpI] at h
    simp only [okO, Bool.and_eq_true, decide_eq_true_eq] at ho
    obtain ⟨h1, h2⟩ := ho
    obtain rfl := Nat.eq_of_beq_eq_true h1
    obtain rfl := Nat.eq_of_beq_eq_true h2
    obtain ⟨x, hg, g1⟩ := xgp_s h
    exact vs_aload hd hg g1
  | aload_n k =>
    dsimp only [stpI] at h
    simp only [okO, Bool.and_eq_true, decide_eq_true_eq] at ho
    obtain ⟨h1, h2⟩ := ho
    obtain rfl := Nat.eq_of_beq_eq_true h1
    obtain rfl := Nat.eq_of_beq_eq_true h2
    obtain ⟨x, hg, g1⟩ := xgp_s h
    exact vs_aload_n hd hg g1
  | istore i =>
    dsimp only [stpI] at h
    simp only [okO, Bool.and_eq_true, decide_eq_true_eq] at ho
    obtain ⟨⟨h1, h2⟩, h3⟩ := ho
    obtain rfl := Nat.eq_of_beq_eq_true h1
    obtain rfl := Nat.eq_of_beq_eq_true h2
    obtain ⟨x, t, rfl, g1⟩ := xi1_s h
    exact vs_istore hd (Nat.le_of_ble_eq_true h3) g1
  | istore_n k =>
    dsimp only [stpI] at h
    simp only [okO, Bool.and_eq_true, decide_eq_true_eq] at ho
    obtain ⟨⟨h1, h2⟩, h3⟩ := ho
    obtain rfl := Nat.eq_of_beq_eq_true h1
    obtain rfl := Nat.eq_of_beq_eq_true h2
    obtain ⟨x, t, rfl, g1⟩ := xi1_s h
    exact vs_istore_n hd rfl (Nat.le_of_ble_eq_true h3) g1
  | lstore i =>
    dsimp only [stpI] at h
    simp only [okO, Bool.and_eq_true, decide_eq_true_eq] at ho
    obtain ⟨⟨h1, h2⟩, h3⟩ := ho
    obtain rfl := Nat.eq_of_beq_eq_true h1
    obtain rfl := Nat.eq_of_beq_eq_true h2
    obtain ⟨x, t, rfl, g1⟩ := xj1_s h
    exact vs_lstore hd (Nat.le_of_ble_eq_true h3) g1
  | lstore_n k =>
    dsimp only [stpI] at h
    simp only [okO, Bool.and_eq_true, decide_eq_true_eq] at ho
    obtain ⟨⟨h1, h2⟩, h3⟩ := ho
    obtain rfl := Nat.eq_of_beq_eq_true h1
    obtain rfl := Nat.eq_of_beq_eq_true h2
    obtain ⟨x, t, rfl, g1⟩ := xj1_s h
    exact vs_lstore_n hd rfl (Nat.le_of_ble_eq_true h3) g1
  | astore i =>
    dsimp only [stpI] at h
    simp only [okO, Bool.and_eq_true, decide_eq_true_eq] at ho
    obtain ⟨⟨h1, h2⟩, h3⟩ := ho
    obtain rfl := Nat.eq_of_beq_eq_true h1
    obtain rfl := Nat.eq_of_beq_eq_true h2
    obtain ⟨k0, i0, t, rfl, g1⟩ := xp1_s h
    exact vs_astore hd (Nat.le_of_ble_eq_true h3) g1
  | astore_n k =>
    dsimp only [stpI] at h
    simp only [okO, Bool.and_eq_true, decide_eq_true_eq] at ho
    obtain ⟨⟨h1, h2⟩, h3⟩ := ho
    obtain rfl := Nat.eq_of_beq_eq_true h1
    obtain rfl := Nat.eq_of_beq_eq_true h2
    obtain ⟨k0, i0, t, rfl, g1⟩ := xp1_s h
    exact vs_astore_n hd rfl (Nat.le_of_ble_eq_true h3) g1
  | iinc i n =>
    dsimp only [stpI] at h
    simp only [okO, Bool.and_eq_true, decide_eq_true_eq] at ho
    obtain ⟨⟨⟨h1, h2⟩, h3⟩, h4⟩ := ho
    obtain rfl := Nat.eq_of_beq_eq_true h1
    obtain rfl := Nat.eq_of_beq_eq_true h2
    obtain ⟨x, hg, g1⟩ := xgi_s h
    exact vs_iinc hd hg h4 (Nat.le_of_ble_eq_true h3) g1
  | iadd =>
    dsimp only [stpI] at h
    obtain rfl := Nat.eq_of_beq_eq_true ho
    obtain ⟨x, y, t, rfl, g1⟩ := xi2_s h
    exact vs_iadd hd g1
  | isub =>
    dsimp only [stpI] at h
    obtain rfl := Nat.eq_of_beq_eq_true ho
    obtain ⟨x, y, t, rfl, g1⟩ := xi2_s h
    exact vs_isub hd g1
  | imul =>
    dsimp only [stpI] at h
    obtain rfl := Nat.eq_of_beq_eq_true ho
    obtain ⟨x, y, t, rfl, g1⟩ := xi2_s h
    exact vs_imul hd g1
  | iand =>
    dsimp only [stpI] at h
    obtain rfl := Nat.eq_of_beq_eq_true ho
    obtain ⟨x, y, t, rfl, g1⟩ := xi2_s h
    exact vs_iand hd g1
  | ishr =>
    dsimp only [stpI] at h
    obtain rfl := Nat.eq_of_beq_eq_true ho
    obtain ⟨x, y, t, rfl, g1⟩ := xi2_s h
    exact vs_ishr hd g1
  | idiv =>
    dsimp only [stpI] at h
    obtain rfl := Nat.eq_of_beq_eq_true ho
    obtain ⟨x, y, t, rfl, h0, g1⟩ := xi2_s h
    exact vs_idiv hd h0 g1
  | irem =>
    dsimp only [stpI] at h
    obtain rfl := Nat.eq_of_beq_eq_true ho
    obtain ⟨x, y, t, rfl, h0, g1⟩ := xi2_s h
    exact vs_irem hd h0 g1
  | ladd =>
    dsimp only [stpI] at h
    obtain rfl := Nat.eq_of_beq_eq_true ho
    obtain ⟨x, y, t, rfl, g1⟩ := xj2_s h
    exact vs_ladd hd g1
  | lsub =>
    dsimp only [stpI] at h
    obtain rfl := Nat.eq_of_beq_eq_true ho
    obtain ⟨x, y, t, rfl, g1⟩ := xj2_s h
    exact vs_lsub hd g1
  | lmul =>
    dsimp only [stpI] at h
    obtain rfl := Nat.eq_of_beq_eq_true ho
    obtain ⟨x, y, t, rfl, g1⟩ := xj2_s h
    exact vs_lmul hd g1
  | land =>
    dsimp only [stpI] at h
    obtain rfl := Nat.eq_of_beq_eq_true ho
    obtain ⟨x, y, t, rfl, g1⟩ := xj2_s h
    exact vs_land hd g1
  | lor =>
    dsimp only [stpI] at h
    obtain rfl := Nat.eq_of_beq_eq_true ho
    obtain ⟨x, y, t, rfl, g1⟩ := xj2_s h
    exact vs_lor hd g1
  | lcmp =>
    dsimp only [stpI] at h
    obtain rfl := Nat.eq_of_beq_eq_true ho
    obtain ⟨x, y, t, rfl, g1⟩ := xj2_s h
    exact vs_lcmp hd g1
  | ldiv =>
    dsimp only [stpI] at h
    obtain rfl := Nat.eq_of_beq_eq_true ho
    obtain ⟨x, y, t, rfl, h0, g1⟩ := xj2_s h
    exact vs_ldiv hd h0 g1
  | lshl =>
    dsimp only [stpI] at h
    obtain rfl := Nat.eq_of_beq_eq_true ho
    obtain ⟨x, y, t, rfl, g1⟩ := xij_s h
    exact vs_lshl hd g1
  | lshr =>
    dsimp only [stpI] at h
    obtain rfl := Nat.eq_of_beq_eq_true ho
    obtain ⟨x, y, t, rfl, g1⟩ := xij_s h
    exact vs_lshr hd g1
  | ineg =>
    dsimp only [stpI] at h
    obtain rfl := Nat.eq_of_beq_eq_true ho
    obtain ⟨x, t, rfl, g1⟩ := xi1_s h
    exact vs_ineg hd g1
  | i2l =>
    dsimp only [stpI] at h
    obtain rfl := Nat.eq_of_beq_eq_true ho
    obtain ⟨x, t, rfl, g1⟩ := xi1_s h
    exact vs_i2l hd g1
  | i2b =>
    dsimp only [stpI] at h
    obtain rfl := Nat.eq_of_beq_eq_true ho
    obtain ⟨x, t, rfl, g1⟩ := xi1_s h
    exact vs_i2b hd g1
  | i2s =>
    dsimp only [stpI] at h
    obtain rfl := Nat.eq_of_beq_eq_true ho
    obtain ⟨x, t, rfl, g1⟩ := xi1_s h
    exact vs_i2s hd g1
  | i2c =>
    dsimp only [stpI] at h
    obtain rfl := Nat.eq_of_beq_eq_true ho
    obtain ⟨x, t, rfl, g1⟩ := xi1_s h
    exact vs_i2c hd g1
  | l2i =>
    dsimp only [stpI] at h
    obtain rfl := Nat.eq_of_beq_eq_true ho
    obtain ⟨x, t, rfl, g1⟩ := xj1_s h
    exact vs_l2i hd g1
  | dup =>
    dsimp only [stpI] at h
    obtain rfl := Nat.eq_of_beq_eq_true ho
    cases st with
    | nil => exact (show False from h).elim
    | cons u t =>
      obtain ⟨hv, g1⟩ := xb_s h
      exact vs_dup hd (by simpa using hv) g1
  | dup2 =>
    dsimp only [stpI] at h
    obtain rfl := Nat.eq_of_beq_eq_true ho
    cases st with
    | nil => exact (show False from h).elim
    | cons u t =>
      cases t with
      | nil => exact (show False from h).elim
      | cons u2 t =>
        obtain ⟨hv, g1⟩ := xb_s h
        simp only [Bool.and_eq_true, Bool.not_eq_true'] at hv
        exact vs_dup2 hd hv.1 hv.2 g1
  | pop =>
    dsimp only [stpI] at h
    obtain rfl := Nat.eq_of_beq_eq_true ho
    cases st with
    | nil => exact (show False from h).elim
    | cons u t =>
      obtain ⟨hv, g1⟩ := xb_s h
      exact vs_pop hd (by simpa using hv) g1
  | ifCond o off =>
    dsimp only [stpI] at h
    simp only [okO, Bool.and_eq_true, decide_eq_true_eq] at ho
    obtain ⟨h1, h2⟩ := ho
    obtain rfl := Nat.eq_of_beq_eq_true h1
    obtain ⟨x, t, rfl, g1⟩ := xi1_s h
    exact vs_ifc hd h2 g1
  | if_icmp o off =>
    dsimp only [stpI] at h
    simp only [okO, Bool.and_eq_true, decide_eq_true_eq] at ho
    obtain ⟨h1, h2⟩ := ho
    obtain rfl := Nat.eq_of_beq_eq_true h1
    obtain ⟨x, y, t, rfl, g1⟩ := xi2_s h
    exact vs_icmp hd h2 g1
  | goto off =>
    dsimp only [stpI] at h
    simp only [okO, Bool.and_eq_true, decide_eq_true_eq] at ho
    obtain ⟨h2, h1⟩ := ho
    obtain rfl := Nat.eq_of_beq_eq_true h1
    exact vs_goto hd h2 h
  | tableswitch dflt lo hi offs =>
    dsimp only [stpI] at h
    obtain ⟨x, t, rfl, g1⟩ := xi1_s h
    exact vs_table hd ho g1
  | lookupswitch dflt ps =>
    dsimp only [stpI] at h
    obtain ⟨x, t, rfl, g1⟩ := xi1_s h
    exact vs_look hd ho g1
  | getfield i =>
    dsimp only [stpI] at h
    simp only [okO, Bool.and_eq_true, decide_eq_true_eq] at ho
    obtain ⟨h1, h2⟩ := ho
    obtain rfl := Nat.eq_of_beq_eq_true h1
    obtain ⟨k, j, t, rfl, g1⟩ := xp1_s h
    obtain ⟨ci, sl, hsh, g2⟩ := xsob_s g1
    obtain ⟨hci, g3⟩ := xb_s g2
    obtain rfl := Nat.eq_of_beq_eq_true hci
    obtain ⟨o, ho, g4⟩ := xlk_s g3
    cases h99 : Nat.beq ci 99 with
    | true =>
      rw [h99] at h2
      obtain rfl := Nat.eq_of_beq_eq_true h99
      exact vs_getsf hd hsh ho (xwd_mem h2) g4
    | false =>
      rw [h99] at h2
      obtain ⟨Cn, T, N, hcl, hb, hlk⟩ := xflk h2
      exact vs_getf hd hsh ho hcl hb hlk g4
  | putfield i =>
    dsimp only [stpI] at h
    simp only [okO, Bool.and_eq_true, decide_eq_true_eq] at ho
    obtain ⟨⟨h1, h2⟩, h3⟩ := ho
    obtain rfl := Nat.eq_of_beq_eq_true h1
    obtain ⟨x, k, j, t, rfl, g1⟩ := xip_s h
    obtain ⟨ci, sl, hsh, g2⟩ := xsob_s g1
    obtain ⟨hci, g3⟩ := xb_s g2
    simp only [Bool.and_eq_true, Bool.not_eq_true'] at hci
    obtain rfl := Nat.eq_of_beq_eq_true hci.1
    obtain ⟨o, ho, g4⟩ := xlk_s g3
    obtain ⟨Cn, T, N, hcl, hb, hlk⟩ := xflk h2
    unfold xfl2 at h3
    rw [hcl] at h3
    simp only [Bool.and_eq_true, decide_eq_true_eq] at h3
    cases o with
    | some q => exact (show False from g4).elim
    | none =>
      cases ts with
      | nil => exact vs_putf hd hsh ho hcl hb hlk h3.1 (ty := .int) h3.2 rfl rfl hci.2 g4
      | cons t0 ts => exact vs_putf hd hsh ho hcl hb hlk h3.1 (ty := .boolean) h3.2 (xnz g4.1).1 (xnz g4.1).2 hci.2 g4.2
  | getstatic i =>
    dsimp only [stpI] at h
    simp only [okO, Bool.and_eq_true] at ho
    obtain ⟨h1, h2⟩ := ho
    obtain rfl := Nat.eq_of_beq_eq_true h1
    split at h
    · exact vs_under hd (xwn_mem h2) h
    · exact vs_compact hd (xwd_mem h2) h
    · exact h.elim
  | iaload =>
    dsimp only [stpI] at h
    obtain rfl := Nat.eq_of_beq_eq_true ho
    obtain ⟨j, k, i, t, rfl, g1⟩ := xip_s h
    obtain ⟨ty, n, rk, hsh, g2⟩ := xsar_s g1
    try dsimp only at g2
    split at g2
    · exact vs_iaload hd hsh g2.1 g2.2
    · exact g2.elim
  | baload =>
    dsimp only [stpI] at h
    obtain rfl := Nat.eq_of_beq_eq_true ho
    obtain ⟨j, k, i, t, rfl, g1⟩ := xip_s h
    obtain ⟨ty, n, rk, hsh, g2⟩ := xsar_s g1
    try dsimp only at g2
    split at g2
    · exact vs_baload hd hsh g2.1 g2.2
    · exact vs_zaload hd hsh g2.1 g2.2
    · exact g2.elim
  | caload =>
    dsimp only [stpI] at h
    obtain rfl := Nat.eq_of_beq_eq_true ho
    obtain ⟨j, k, i, t, rfl, g1⟩ := xip_s h
    obtain ⟨ty, n, rk, hsh, g2⟩ := xsar_s g1
    try dsimp only at g2
    split at g2
    · exact vs_caload hd hsh g2.1 g2.2
    · exact g2.elim
  | laload =>
    dsimp only [stpI] at h
    obtain rfl := Nat.eq_of_beq_eq_true ho
    obtain ⟨j, k, i, t, rfl, g1⟩ := xip_s h
    obtain ⟨ty, n, rk, hsh, g2⟩ := xsar_s g1
    try dsimp only at g2
    split at g2
    · exact vs_laload hd hsh g2.1 g2.2
    · exact g2.elim
  | aaload =>
    dsimp only [stpI] at h
    obtain rfl := Nat.eq_of_beq_eq_true ho
    obtain ⟨j, k, i, t, rfl, g1⟩ := xip_s h
    obtain ⟨ty, n, rk, hsh, g2⟩ := xsar_s g1
    try dsimp only at g2
    split at g2
    · obtain ⟨hn, g3⟩ := xb_s g2
      exact vs_aaload hd hsh (by simpa using hn) g3.1 g3.2
    · exact g2.elim
  | arraylength =>
    dsimp only [stpI] at h
    obtain rfl := Nat.eq_of_beq_eq_true ho
    obtain ⟨k, i, t, rfl, g1⟩ := xp1_s h
    obtain ⟨ty, n, rk, hsh, g2⟩ := xsar_s g1
    exact vs_alen hd hsh g2
  | iastore =>
    dsimp only [stpI] at h
    obtain rfl := Nat.eq_of_beq_eq_true ho
    obtain ⟨x, j, k, i, t, rfl, g1⟩ := xiip_s h
    obtain ⟨ty, n, rk, hsh, g2⟩ := xsar_s g1
    obtain ⟨hn, g3⟩ := xb_s g2
    simp only [Bool.and_eq_true, Bool.not_eq_true'] at hn
    try dsimp only at g3
    split at g3
    · exact vs_iastore hd hsh hn.1 hn.2 g3.1 g3.2
    · exact g3.elim
  | bastore =>
    dsimp only [stpI] at h
    obtain rfl := Nat.eq_of_beq_eq_true ho
    obtain ⟨x, j, k, i, t, rfl, g1⟩ := xiip_s h
    obtain ⟨ty, n, rk, hsh, g2⟩ := xsar_s g1
    obtain ⟨hn, g3⟩ := xb_s g2
    simp only [Bool.and_eq_true, Bool.not_eq_true'] at hn
    try dsimp only at g3
    split at g3
    · exact vs_bastore hd hsh hn.1 hn.2 g3.1 g3.2
    · exact vs_zastore hd hsh hn.1 hn.2 g3.1 g3.2
    · exact g3.elim
  | lastore =>
    dsimp only [stpI] at h
    obtain rfl := Nat.eq_of_beq_eq_true ho
    obtain ⟨x, j, k, i, t, rfl, g1⟩ := xjip_s h
    obtain ⟨ty, n, rk, hsh, g2⟩ := xsar_s g1
    obtain ⟨hn, g3⟩ := xb_s g2
    simp only [Bool.and_eq_true, Bool.not_eq_true'] at hn
    try dsimp only at g3
    split at g3
    · exact vs_lastore hd hsh hn.1 hn.2 g3.1 g3.2
    · exact g3.elim
  | ireturn =>
    dsimp only [stpI] at h
    simp only [okO, Bool.and_eq_true, decide_eq_true_eq] at ho
    obtain ⟨h1, h2⟩ := ho
    obtain rfl := Nat.eq_of_beq_eq_true h1
    split at h
    · split at h
      · exact vs_ireturn hd (by simpa using h2) rfl h
      · exact vs_ireturn hd (by simpa using h2) (xnz h.1).1 h.2
      · exact vs_ireturn hd (by simpa using h2) h.1 h.2
      · exact vs_ireturn hd (by simpa using h2) h.1 h.2
      · exact h.elim
    · exact h.elim
  | lreturn =>
    dsimp only [stpI] at h
    simp only [okO, Bool.and_eq_true, decide_eq_true_eq] at ho
    obtain ⟨h1, h2⟩ := ho
    obtain rfl := Nat.eq_of_beq_eq_true h1
    split at h
    · exact vs_lreturn hd h2 h
    · exact h.elim
  | return_ =>
    dsimp only [stpI] at h
    simp only [okO, Bool.and_eq_true, decide_eq_true_eq] at ho
    obtain ⟨h1, h2⟩ := ho
    obtain rfl := Nat.eq_of_beq_eq_true h1
    split at h
    · exact vs_vreturn hd h2 h
    · exact h.elim
  | invokestatic i =>
    dsimp only [stpI] at h
    simp only [okO, Bool.and_eq_true, decide_eq_true_eq] at ho
    obtain ⟨h1, h2⟩ := ho
    obtain rfl := Nat.eq_of_beq_eq_true h1
    obtain ⟨d, rfl, g1⟩ := xdn_s h
    try dsimp only at g1
    split at g1
    · rename_i hle
      obtain ⟨av, rest, rfl, hlen, g2⟩ := xtk_s g1
      obtain ⟨hc8, g3⟩ := xb_s g2
      simp only [Bool.and_eq_true] at hc8
      rw [List.append_nil] at g3
      split at h2
      · cases hle
      · cases hle
      · cases hle
      · cases hle
      · simp only [Bool.or_eq_true, Bool.and_eq_true, decide_eq_true_eq] at h2
        rcases h2 with h2 | h2
        · rw [h2] at hle; cases hle
        · subst hlen
          obtain ⟨hlt, hlk⟩ := xmlk h2.1.1
          exact vs_callS (c' := 0) (z' := 0) hd (xmok_all hlt) h2.1.2 hlk h2.2 (Nat.le_of_ble_eq_true hc8.1.1) hc8.1.2 hc8.2 g3
    · split at g1
      · obtain ⟨n, dp, q, sp, q0, t, rfl, g4⟩ := xcpa_s g1
        obtain ⟨hc8, g5⟩ := xb_s g4
        simp only [Bool.and_eq_true, Bool.not_eq_true'] at hc8
        obtain ⟨ty0, n0, r0, hsh0, g6⟩ := xsar_s g5
        obtain ⟨ty, n1, r1, hsh, g7⟩ := xsar_s g6
        obtain ⟨hn, g8⟩ := xb_s g7
        try dsimp only at g8
        split at g8
        · split at g8
          · exact vs_copy hd (xwd_mem h2) (Nat.le_of_ble_eq_true hc8.1) hsh0 hsh (by simpa using hn) hc8.2.1 hc8.2.2 g8.1 g8.2.1 g8.2.2.1 g8.2.2.2.1 g8.2.2.2.2.1 g8.2.2.2.2.2
          · exact g8.elim
        · exact g8.elim
      · obtain ⟨x, y, t, rfl, g9⟩ := xi2_s g1
        obtain ⟨hc8, g10⟩ := xb_s g9
        exact vs_max hd (xwd_mem h2) (Nat.le_of_ble_eq_true hc8) g10
      · obtain ⟨x, y, t, rfl, g11⟩ := xi2_s g1
        obtain ⟨hc8, g12⟩ := xb_s g11
        exact vs_min hd (xwd_mem h2) (Nat.le_of_ble_eq_true hc8) g12
      · obtain ⟨x, t, rfl, g13⟩ := xi1_s g1
        obtain ⟨hc8, g14⟩ := xb_s g13
        exact vs_abs hd (xwd_mem h2) (Nat.le_of_ble_eq_true hc8) g14
      · exact g1.elim
  | invokevirtual i =>
    dsimp only [stpI] at h
    simp only [okO, Bool.and_eq_true, decide_eq_true_eq] at ho
    obtain ⟨h1, h2⟩ := ho
    obtain rfl := Nat.eq_of_beq_eq_true h1
    obtain ⟨d, rfl, g1⟩ := xdn_s h
    obtain ⟨av, rest, rfl, hlen, g2⟩ := xtk_s g1
    rw [List.append_nil] at g2
    obtain ⟨k, j, av, rfl, g3⟩ := xrcv_s g2
    obtain ⟨ci, sl, hsh, g4⟩ := xsob_s g3
    obtain ⟨hci, g5⟩ := xb_s g4
    simp only [Bool.and_eq_true, Bool.not_eq_true'] at hci
    obtain ⟨hc1, hci⟩ := hci
    obtain rfl := Nat.eq_of_beq_eq_true hci
    obtain ⟨hc8, g6⟩ := xb_s g5
    simp only [Bool.and_eq_true] at hc8
    simp only [Bool.or_eq_true, Bool.and_eq_true, decide_eq_true_eq] at h2
    rcases h2 with h2 | h2
    · rw [hc1] at h2; cases h2
    · obtain ⟨⟨⟨⟨h3, h4⟩, h5⟩, h6⟩, h7⟩ := h2
      obtain ⟨hlt, hlk⟩ := xmlk h3
      have hcl : ((mt a).2.2.2.2.2.2.2.2.2.2 = 99 ∧ (mt a).1.cls = "java/lang/String") ∨ ∃ T N, classes[(mt a).2.2.2.2.2.2.2.2.2.2]? = some ((mt a).1.cls, T, N) := by
        cases h99 : Nat.beq (mt a).2.2.2.2.2.2.2.2.2.2 99 with
        | true =>
          rw [h99] at h7
          exact Or.inl ⟨Nat.eq_of_beq_eq_true h99, by simpa using h7⟩
        | false =>
          rw [h99] at h7
          cases hq : classes[(mt a).2.2.2.2.2.2.2.2.2.2]? with
          | none => rw [hq] at h7; cases h7
          | some r =>
            rw [hq] at h7
            have hr : r.1 = (mt a).1.cls := by simpa using h7
            obtain ⟨rc, rT, rN⟩ := r
            dsimp only at hr
            subst hr
            exact Or.inr ⟨rT, rN, rfl⟩
      rw [show b - 1 = av.length by rw [← hlen]; simp] at h6
      have := vs_callV (c' := 0) (z' := 0) hd (xmok_all hlt) (by simpa using h4) hlk hsh hcl h6 (Nat.le_of_ble_eq_true hc8.1.1) hc8.1.2 hc8.2 g6
      simpa using this
  | _ => exact (show False from h).elim
end XS1
end
section
/-! MANY STEPS: until a stop or a branch that the reader decides -/
def okI (mi pc : Nat) (r : RI) : Bool := decide (decode (xby mi) pc = .ok (r.2.1, r.2.2.1)) && okO mi pc r.2.1 r.2.2.1 r.2.2.2.1 r.2.2.2.2.1 r.2.2.2.2.2.1 r.2.2.2.2.2.2.1 r.2.2.2.2.2.2.2.1 r.2.2.2.2.2.2.2.2
def pgok (mi : Nat) : Prop := ∀ pc, pc < (mt mi).2.2.1 → (bif Nat.beq (pg mi pc).1 pc then okI mi pc (pg mi pc) else true) = true
theorem V_step {d c z mi pc : Nat} {lv : List (Option xV)} {st : List xV} {S : xS} {Q : xQ} (hp : pgok mi) (h : stp d mi pc lv st S Q (fun pc lv st S => V d c z mi pc lv st S Q)) : V d c z mi pc lv st S Q := by
  have hp := hp pc
  unfold stp at h
  generalize pg mi pc = r at hp h
  obtain ⟨p, ins, len, a, b, v, w, ts, wi⟩ := r
  obtain ⟨h1, hs⟩ := xb_s h
  simp only [Bool.and_eq_true] at h1
  have hpc : p = pc := Nat.eq_of_beq_eq_true h1.1
  subst hpc
  have h2 := hp (Nat.le_of_ble_eq_true h1.2)
  dsimp only at h2
  rw [h1.1] at h2
  have h2 : okI mi p (p, ins, len, a, b, v, w, ts, wi) = true := h2
  unfold okI at h2
  simp only [Bool.and_eq_true, decide_eq_true_eq] at h2
  exact V_stepI _ _ _ _ _ _ _ _ h2.1 h2.2 hs
def xstop (pc : Nat) : List Nat → Bool
  | [] => false
  | q :: r => Nat.beq q pc || xstop pc r
def wpx (d c z mi : Nat) (Q : xQ) (stops : List Nat) : Nat → xK
  | 0, pc, lv, st, S => V d c z mi pc lv st S Q
  | n + 1, pc, lv, st, S => match xstop pc stops with
    | true => V d c z mi pc lv st S Q
    | false => stp d mi pc lv st S Q (wpx d c z mi Q stops n)
theorem CT_mono' {d c z mi2 : Nat} {av : List xV} {S : xS} {Q Q' : xQ} (hq : ∀ r S', Q r S' → Q' r S') (h : CT d c z mi2 av S Q) : CT d c z mi2 av S Q' := h.mono hq

theorem xlk_m {f f' : Option (Nat × Nat × Nat) → Prop} (hf : ∀ o, f o → f' o) : ∀ {sl : List (Option (Nat × Nat × Nat))} {b : Nat}, xlk sl b f → xlk sl b f'
  | [], _, h => h
  | o :: _, 0, h => hf o h
  | _ :: r, b + 1, h => xlk_m hf (sl := r) (b := b) h
theorem xtk_m {f f' : List xV → List xV → Prop} (hf : ∀ a r, f a r → f' a r) : ∀ {n : Nat} {st acc : List xV}, xtk n st acc f → xtk n st acc f'
  | 0, st, acc, h => hf _ _ h
  | n + 1, [], acc, h => h
  | n + 1, v :: st, acc, h => xtk_m hf (n := n) (st := st) (acc := v :: acc) h
theorem xi1_m {a0 : List xV} {f f' : Int32 → List xV → Prop} (hf : ∀ x t, f x t → f' x t) (h : xi1 a0 f) : xi1 a0 f' := by
  unfold xi1 at h ⊢
  split at h <;> first | exact hf _ _ h | exact h.elim
theorem xi2_m {a0 : List xV} {f f' : Int32 → Int32 → List xV → Prop} (hf : ∀ x y t, f x y t → f' x y t) (h : xi2 a0 f) : xi2 a0 f' := by
  unfold xi2 at h ⊢
  split at h <;> first | exact hf _ _ _ h | exact h.elim
theorem xp1_m {a0 : List xV} {f f' : Nat → Nat → List xV → Prop} (hf : ∀ k i t, f k i t → f' k i t) (h : xp1 a0 f) : xp1 a0 f' := by
  unfold xp1 at h ⊢
  split at h <;> first | exact hf _ _ _ h | exact h.elim
theorem xip_m {a0 : List xV} {f f' : Int32 → Nat → Nat → List xV → Prop} (hf : ∀ j k i t, f j k i t → f' j k i t) (h : xip a0 f) : xip a0 f' := by
  unfold xip at h ⊢
  split at h <;> first | exact hf _ _ _ _ h | exact h.elim
theorem xiip_m {a0 : List xV} {f f' : Int32 → Int32 → Nat → Nat → List xV → Prop} (hf : ∀ x j k i t, f x j k i t → f' x j k i t) (h : xiip a0 f) : xiip a0 f' := by
  unfold xiip at h ⊢
  split at h <;> first | exact hf _ _ _ _ _ h | exact h.elim
theorem xjip_m {a0 : List xV} {f f' : Int64 → Int32 → Nat → Nat → List xV → Prop} (hf : ∀ x j k i t, f x j k i t → f' x j k i t) (h : xjip a0 f) : xjip a0 f' := by
  unfold xjip at h ⊢
  split at h <;> first | exact hf _ _ _ _ _ h | exact h.elim
theorem xcpa_m {a0 : List xV} {f f' : Int32 → Int32 → Nat × Nat → Int32 → Nat × Nat → List xV → Prop} (hf : ∀ n dp q sp q0 t, f n dp q sp q0 t → f' n dp q sp q0 t) (h : xcpa a0 f) : xcpa a0 f' := by
  unfold xcpa at h ⊢
  split at h <;> first | exact hf _ _ _ _ _ _ h | exact h.elim
theorem xsob_m {a0 : XS} {f f' : Nat → List (Option (Nat × Nat × Nat)) → Prop} (hf : ∀ c l, f c l → f' c l) (h : xsob a0 f) : xsob a0 f' := by
  unfold xsob at h ⊢
  split at h <;> first | exact hf _ _ h | exact h.elim
theorem xsar_m {a0 : XS} {f f' : FieldType → Nat → Nat → Prop} (hf : ∀ ty n rk, f ty n rk → f' ty n rk) (h : xsar a0 f) : xsar a0 f' := by
  unfold xsar at h ⊢
  split at h <;> first | exact hf _ _ _ h | exact h.elim
theorem xrcv_m {a0 : List xV} {f f' : Nat → Nat → List xV → Prop} (hf : ∀ k i r, f k i r → f' k i r) (h : xrcv a0 f) : xrcv a0 f' := by
  unfold xrcv at h ⊢
  split at h <;> first | exact hf _ _ _ h | exact h.elim
theorem xdn_m {a0 : Nat} {f f' : Nat → Prop} (hf : ∀ d, f d → f' d) (h : xdn a0 f) : xdn a0 f' := by
  unfold xdn at h ⊢
  split at h <;> first | exact hf _ h | exact h.elim
theorem xsw_m {K K' : Nat → Prop} (hK : ∀ p, K p → K' p) {x : Int32} {dflt : Nat} : ∀ {ts : List (Int32 × Nat)}, xsw K x dflt ts → xsw K' x dflt ts
  | [], h => hK _ h
  | q :: r, h => ⟨fun hx => hK _ (h.1 hx), fun hx => xsw_m hK (h.2 hx)⟩
theorem xcmp_m {o : Jvm.ClassFile.Cond} {x y : Int32} {a b a' b' : Prop} (ha : a → a') (hb : b → b') (h : xcmp o x y a b) : xcmp o x y a' b' := by
  cases o <;> exact ⟨fun q => ha (h.1 q), fun q => hb (h.2 q)⟩
theorem xb_m {b : Bool} {P P' : Prop} (hP : P → P') (h : xb b P) : xb b P' := by
  cases b
  · exact h
  · exact hP h
set_option maxHeartbeats 4000000 in
theorem stpI_m {d mi : Nat} {lv : List (Option xV)} {st : List xV} {S : xS} {Q : xQ} {K K' : xK} (hK : ∀ pc lv st S, K pc lv st S → K' pc lv st S) (ins : Instr) (a b : Nat) (v : Int32) (w : Int64) (ts : List (Int32 × Nat)) (np : Nat) (h : stpI d mi lv st S Q K ins a b v w ts np) : stpI d mi lv st S Q K' ins a b v w ts np := by
  cases ins with
  | iconst n =>
    dsimp only [stpI] at h ⊢
    exact hK _ _ _ _ h
  | bipush n =>
    dsimp only [stpI] at h ⊢
    exact hK _ _ _ _ h
  | sipush n =>
    dsimp only [stpI] at h ⊢
    exact hK _ _ _ _ h
  | lconst n =>
    dsimp only [stpI] at h ⊢
    exact hK _ _ _ _ h
  | ldc2_w n =>
    dsimp only [stpI] at h ⊢
    exact hK _ _ _ _ h
  | goto o =>
    dsimp only [stpI] at h ⊢
    exact hK _ _ _ _ h
  | ldc_w n =>
    dsimp only [stpI] at h ⊢
    exact xb_m (hK _ _ _ _) h
  | ldc n =>
    dsimp only [stpI] at h ⊢
    split at h <;> first | exact hK _ _ _ _ h | exact h.elim
  | getstatic n =>
    dsimp only [stpI] at h ⊢
    split at h <;> first | exact hK _ _ _ _ h | exact h.elim
  | iload i =>
    dsimp only [stpI] at h ⊢
    obtain ⟨x, e, g⟩ := xgi_s h
    rw [e]
    exact hK _ _ _ _ g
  | iload_n i =>
    dsimp only [stpI] at h ⊢
    obtain ⟨x, e, g⟩ := xgi_s h
    rw [e]
    exact hK _ _ _ _ g
  | lload i =>
    dsimp only [stpI] at h ⊢
    obtain ⟨x, e, g⟩ := xgj_s h
    rw [e]
    exact hK _ _ _ _ g
  | lload_n i =>
    dsimp only [stpI] at h ⊢
    obtain ⟨x, e, g⟩ := xgj_s h
    rw [e]
    exact hK _ _ _ _ g
  | aload i =>
    dsimp only [stpI] at h ⊢
    obtain ⟨x, e, g⟩ := xgp_s h
    rw [e]
    exact hK _ _ _ _ g
  | aload_n i =>
    dsimp only [stpI] at h ⊢
    obtain ⟨x, e, g⟩ := xgp_s h
    rw [e]
    exact hK _ _ _ _ g
  | iinc i n =>
    dsimp only [stpI] at h ⊢
    obtain ⟨x, e, g⟩ := xgi_s h
    rw [e]
    exact hK _ _ _ _ g
  | istore i =>
    dsimp only [stpI] at h ⊢
    obtain ⟨x, t, e, g⟩ := xi1_s h
    subst e
    exact hK _ _ _ _ g
  | istore_n i =>
    dsimp only [stpI] at h ⊢
    obtain ⟨x, t, e, g⟩ := xi1_s h
    subst e
    exact hK _ _ _ _ g
  | ineg =>
    dsimp only [stpI] at h ⊢
    obtain ⟨x, t, e, g⟩ := xi1_s h
    subst e
    exact hK _ _ _ _ g
  | i2l =>
    dsimp only [stpI] at h ⊢
    obtain ⟨x, t, e, g⟩ := xi1_s h
    subst e
    exact hK _ _ _ _ g
  | i2b =>
    dsimp only [stpI] at h ⊢
    obtain ⟨x, t, e, g⟩ := xi1_s h
    subst e
    exact hK _ _ _ _ g
  | i2s =>
    dsimp only [stpI] at h ⊢
    obtain ⟨x, t, e, g⟩ := xi1_s h
    subst e
    exact hK _ _ _ _ g
  | i2c =>
    dsimp only [stpI] at h ⊢
    obtain ⟨x, t, e, g⟩ := xi1_s h
    subst e
    exact hK _ _ _ _ g
  | lstore i =>
    dsimp only [stpI] at h ⊢
    obtain ⟨x, t, e, g⟩ := xj1_s h
    subst e
    exact hK _ _ _ _ g
  | lstore_n i =>
    dsimp only [stpI] at h ⊢
    obtain ⟨x, t, e, g⟩ := xj1_s h
    subst e
    exact hK _ _ _ _ g
  | l2i =>
    dsimp only [stpI] at h ⊢
    obtain ⟨x, t, e, g⟩ := xj1_s h
    subst e
    exact hK _ _ _ _ g
  | astore i =>
    dsimp only [stpI] at h ⊢
    obtain ⟨k, i, t, e, g⟩ := xp1_s h
    subst e
    exact hK _ _ _ _ g
  | astore_n i =>
    dsimp only [stpI] at h ⊢
    obtain ⟨k, i, t, e, g⟩ := xp1_s h
    subst e
    exact hK _ _ _ _ g
  | iadd =>
    dsimp only [stpI] at h ⊢
    obtain ⟨x, y, t, e, g⟩ := xi2_s h
    subst e
    exact hK _ _ _ _ g
  | isub =>
    dsimp only [stpI] at h ⊢
    obtain ⟨x, y, t, e, g⟩ := xi2_s h
    subst e
    exact hK _ _ _ _ g
  | imul =>
    dsimp only [stpI] at h ⊢
    obtain ⟨x, y, t, e, g⟩ := xi2_s h
    subst e
    exact hK _ _ _ _ g
  | iand =>
    dsimp only [stpI] at h ⊢
    obtain ⟨x, y, t, e, g⟩ := xi2_s h
    subst e
    exact hK _ _ _ _ g
  | ishr =>
    dsimp only [stpI] at h ⊢
    obtain ⟨x, y, t, e, g⟩ := xi2_s h
    subst e
    exact hK _ _ _ _ g
  | idiv =>
    dsimp only [stpI] at h ⊢
    obtain ⟨x, y, t, e, g⟩ := xi2_s h
    subst e
    exact ⟨g.1, hK _ _ _ _ g.2⟩
  | irem =>
    dsimp only [stpI] at h ⊢
    obtain ⟨x, y, t, e, g⟩ := xi2_s h
    subst e
    exact ⟨g.1, hK _ _ _ _ g.2⟩
  | ladd =>
    dsimp only [stpI] at h ⊢
    obtain ⟨x, y, t, e, g⟩ := xj2_s h
    subst e
    exact hK _ _ _ _ g
  | lsub =>
    dsimp only [stpI] at h ⊢
    obtain ⟨x, y, t, e, g⟩ := xj2_s h
    subst e
    exact hK _ _ _ _ g
  | lmul =>
    dsimp only [stpI] at h ⊢
    obtain ⟨x, y, t, e, g⟩ := xj2_s h
    subst e
    exact hK _ _ _ _ g
  | land =>
    dsimp only [stpI] at h ⊢
    obtain ⟨x, y, t, e, g⟩ := xj2_s h
    subst e
    exact hK _ _ _ _ g
  | lor =>
    dsimp only [stpI] at h ⊢
    obtain ⟨x, y, t, e, g⟩ := xj2_s h
    subst e
    exact hK _ _ _ _ g
  | lcmp =>
    dsimp only [stpI] at h ⊢
    obtain ⟨x, y, t, e, g⟩ := xj2_s h
    subst e
    exact hK _ _ _ _ g
  | ldiv =>
    dsimp only [stpI] at h ⊢
    obtain ⟨x, y, t, e, g⟩ := xj2_s h
    subst e
    exact ⟨g.1, hK _ _ _ _ g.2⟩
  | lshl =>
    dsimp only [stpI] at h ⊢
    obtain ⟨x, y, t, e, g⟩ := xij_s h
    subst e
    exact hK _ _ _ _ g
  | lshr =>
    dsimp only [stpI] at h ⊢
    obtain ⟨x, y, t, e, g⟩ := xij_s h
    subst e
    exact hK _ _ _ _ g
  | dup =>
    dsimp only [stpI] at h ⊢
    cases st with
    | nil => exact h
    | cons u t => exact xb_m (hK _ _ _ _) h
  | pop =>
    dsimp only [stpI] at h ⊢
    cases st with
    | nil => exact h
    | cons u t => exact xb_m (hK _ _ _ _) h
  | dup2 =>
    dsimp only [stpI] at h ⊢
    cases st with
    | nil => exact h
    | cons u t =>
      cases t with
      | nil => exact h
      | cons u2 t => exact xb_m (hK _ _ _ _) h
  | ifCond o off =>
    dsimp only [stpI] at h ⊢
    obtain ⟨x, t, e, g⟩ := xi1_s h
    subst e
    exact xcmp_m (hK _ _ _ _) (hK _ _ _ _) g
  | if_icmp o off =>
    dsimp only [stpI] at h ⊢
    obtain ⟨x, y, t, e, g⟩ := xi2_s h
    subst e
    exact xcmp_m (hK _ _ _ _) (hK _ _ _ _) g
  | tableswitch p q r s =>
    dsimp only [stpI] at h ⊢
    obtain ⟨x, t, e, g⟩ := xi1_s h
    subst e
    exact xsw_m (fun p => hK p _ _ _) g
  | lookupswitch p q =>
    dsimp only [stpI] at h ⊢
    obtain ⟨x, t, e, g⟩ := xi1_s h
    subst e
    exact xsw_m (fun p => hK p _ _ _) g
  | getfield i =>
    dsimp only [stpI] at h ⊢
    exact xp1_m (fun k i t => xsob_m (fun ci sl => xb_m (xlk_m (fun o => hK _ _ _ _)))) h
  | putfield i =>
    dsimp only [stpI] at h ⊢
    refine xip_m (fun x k i t => xsob_m (fun ci sl => xb_m (xlk_m (fun o ho => ?_)))) h
    cases o with
    | some q => exact ho
    | none =>
      cases ts with
      | nil => exact hK _ _ _ _ ho
      | cons t0 ts => exact ⟨ho.1, hK _ _ _ _ ho.2⟩
  | iaload =>
    dsimp only [stpI] at h ⊢
    refine xip_m (fun j k i t => xsar_m (fun ty n rk q => ?_)) h
    cases ty <;> first | exact q | exact ⟨q.1, hK _ _ _ _ q.2⟩
  | caload =>
    dsimp only [stpI] at h ⊢
    refine xip_m (fun j k i t => xsar_m (fun ty n rk q => ?_)) h
    cases ty <;> first | exact q | exact ⟨q.1, hK _ _ _ _ q.2⟩
  | laload =>
    dsimp only [stpI] at h ⊢
    refine xip_m (fun j k i t => xsar_m (fun ty n rk q => ?_)) h
    cases ty <;> first | exact q | exact ⟨q.1, hK _ _ _ _ q.2⟩
  | baload =>
    dsimp only [stpI] at h ⊢
    refine xip_m (fun j k i t => xsar_m (fun ty n rk q => ?_)) h
    cases ty <;> first | exact q | exact ⟨q.1, hK _ _ _ _ q.2⟩
  | aaload =>
    dsimp only [stpI] at h ⊢
    refine xip_m (fun j k i t => xsar_m (fun ty n rk q => ?_)) h
    cases ty <;> first | exact q | exact xb_m (fun q => ⟨q.1, hK _ _ _ _ q.2⟩) q
  | arraylength =>
    dsimp only [stpI] at h ⊢
    exact xp1_m (fun k i t => xsar_m (fun ty n rk => hK _ _ _ _)) h
  | iastore =>
    dsimp only [stpI] at h ⊢
    refine xiip_m (fun x j k i t => xsar_m (fun ty n rk => xb_m (fun q => ?_))) h
    cases ty <;> first | exact q | exact ⟨q.1, hK _ _ _ _ q.2⟩
  | bastore =>
    dsimp only [stpI] at h ⊢
    refine xiip_m (fun x j k i t => xsar_m (fun ty n rk => xb_m (fun q => ?_))) h
    cases ty <;> first | exact q | exact ⟨q.1, hK _ _ _ _ q.2⟩
  | lastore =>
    dsimp only [stpI] at h ⊢
    refine xjip_m (fun x j k i t => xsar_m (fun ty n rk => xb_m (fun q => ?_))) h
    cases ty <;> first | exact q | exact ⟨q.1, hK _ _ _ _ q.2⟩
  | ireturn =>
    dsimp only [stpI] at h ⊢
    exact h
  | lreturn =>
    dsimp only [stpI] at h ⊢
    exact h
  | return_ =>
    dsimp only [stpI] at h ⊢
    exact h
  | invokestatic i =>
    dsimp only [stpI] at h ⊢
    refine xdn_m (fun d g => ?_) h
    split at g
    · exact xtk_m (fun av rest q => xb_m (fun z => z.mono (fun r S => hK _ _ _ _)) q) g
    · split at g
      · refine xcpa_m (fun n dp q sp q0 t => xb_m (xsar_m (fun ty0 n0 r0 => xsar_m (fun ty n1 r1 => xb_m (fun g5 => ?_))))) g
        cases ty0 <;> first | exact g5 | (cases ty <;> first | exact g5 | exact ⟨g5.1, g5.2.1, g5.2.2.1, g5.2.2.2.1, g5.2.2.2.2.1, hK _ _ _ _ g5.2.2.2.2.2⟩)
      · exact xi2_m (fun x y t => xb_m (hK _ _ _ _)) g
      · exact xi2_m (fun x y t => xb_m (hK _ _ _ _)) g
      · exact xi1_m (fun x t => xb_m (hK _ _ _ _)) g
      · exact g.elim
  | invokevirtual i =>
    dsimp only [stpI] at h ⊢
    exact xdn_m (fun d => xtk_m (fun av rest => xrcv_m (fun k i r => xsob_m (fun ci sl => xb_m (xb_m (fun z => z.mono (fun r S => hK _ _ _ _))))))) h
  | _ => exact h
theorem stp_m {d mi pc : Nat} {lv : List (Option xV)} {st : List xV} {S : xS} {Q : xQ} {K K' : xK} (hK : ∀ pc lv st S, K pc lv st S → K' pc lv st S) (h : stp d mi pc lv st S Q K) : stp d mi pc lv st S Q K' := by
  unfold stp at h ⊢
  generalize pg mi pc = r at h ⊢
  obtain ⟨p, ins, len, a, b, v, w, ts, wi⟩ := r
  exact xb_m (stpI_m hK _ _ _ _ _ _ _) h
theorem wpx_V {d c z mi : Nat} {Q : xQ} {stops : List Nat} (hp : pgok mi) : ∀ (n pc : Nat) (lv : List (Option xV)) (st : List xV) (S : xS), wpx d c z mi Q stops n pc lv st S → V d c z mi pc lv st S Q
  | 0, _, _, _, _, h => h
  | n + 1, pc, lv, st, S, h => by
    unfold wpx at h
    split at h
    · exact h
    · exact V_step hp (stp_m (wpx_V hp n) h)
/-- from here on by computing, up to the stops -/
theorem V_go {d c z mi pc : Nat} {lv : List (Option xV)} {st : List xV} {S : xS} {Q : xQ} (hp : pgok mi) (stops : List Nat) (n : Nat) (h : stp d mi pc lv st S Q (wpx d c z mi Q stops n)) : V d c z mi pc lv st S Q := V_step hp (stp_m (wpx_V hp n) h)
theorem V.mono {d c z mi pc : Nat} {lv : List (Option xV)} {st : List xV} {S : xS} {Q Q' : xQ} (hq : ∀ r S', Q r S' → Q' r S') (h : V d c z mi pc lv st S Q) : V d c z mi pc lv st S Q' := by
  intro p l e R s m args below meth c0 H locs ls cells slots mc ms D B L0 L C hc hz hRc hRs hB hL hW hS hlv hst hl T hT X
  obtain ⟨t, h1, o, h2, h3, ⟨⟨r, S', L', k1, k2, k3, k4, k5⟩, g6⟩, g7⟩ := h p l e R s m args below meth c0 H locs ls cells slots mc ms D B L0 L C hc hz hRc hRs hB hL hW hS hlv hst hl T hT X
  exact ⟨t, h1, o, h2, h3, ⟨⟨r, S', L', k1, k2, hq r S' k3, k4, k5⟩, g6⟩, g7⟩
end
section
/-! the tables agree with the code, method by method -/
set_option maxRecDepth 100000 in
theorem pk_0 : pgok 0 := by unfold pgok; decide +kernel
set_option maxRecDepth 100000 in
theorem pk_1 : pgok 1 := by unfold pgok; decide +kernel
set_option maxRecDepth 100000 in
theorem pk_2 : pgok 2 := by unfold pgok; decide +kernel
set_option maxRecDepth 100000 in
theorem pk_3 : pgok 3 := by unfold pgok; decide +kernel
set_option maxRecDepth 100000 in
theorem pk_4 : pgok 4 := by unfold pgok; decide +kernel
set_option maxRecDepth 100000 in
theorem pk_5 : pgok 5 := by unfold pgok; decide +kernel
set_option maxRecDepth 100000 in
theorem pk_6 : pgok 6 := by unfold pgok; decide +kernel
set_option maxRecDepth 100000 in
theorem pk_7 : pgok 7 := by unfold pgok; decide +kernel
set_option maxRecDepth 100000 in
theorem pk_8 : pgok 8 := by unfold pgok; decide +kernel
set_option maxRecDepth 100000 in
theorem pk_9 : pgok 9 := by unfold pgok; decide +kernel
set_option maxRecDepth 100000 in
theorem pk_10 : pgok 10 := by unfold pgok; decide +kernel
set_option maxRecDepth 100000 in
theorem pk_11 : pgok 11 := by unfold pgok; decide +kernel
set_option maxRecDepth 100000 in
theorem pk_12 : pgok 12 := by unfold pgok; decide +kernel
set_option maxRecDepth 100000 in
theorem pk_13 : pgok 13 := by unfold pgok; decide +kernel
set_option maxRecDepth 100000 in
theorem pk_14 : pgok 14 := by unfold pgok; decide +kernel
set_option maxRecDepth 100000 in
theorem pk_15 : pgok 15 := by unfold pgok; decide +kernel
set_option maxRecDepth 100000 in
theorem pk_16 : pgok 16 := by unfold pgok; decide +kernel
set_option maxRecDepth 100000 in
theorem pk_17 : pgok 17 := by unfold pgok; decide +kernel
set_option maxRecDepth 100000 in
theorem pk_18 : pgok 18 := by unfold pgok; decide +kernel
set_option maxRecDepth 100000 in
theorem pk_19 : pgok 19 := by unfold pgok; decide +kernel
set_option maxRecDepth 100000 in
theorem pk_20 : pgok 20 := by unfold pgok; decide +kernel
set_option maxRecDepth 100000 in
theorem pk_21 : pgok 21 := by unfold pgok; decide +kernel
set_option maxRecDepth 100000 in
theorem pk_22 : pgok 22 := by unfold pgok; decide +kernel
set_option maxRecDepth 100000 in
theorem pk_23 : pgok 23 := by unfold pgok; decide +kernel
set_option maxRecDepth 100000 in
theorem pk_24 : pgok 24 := by unfold pgok; decide +kernel
set_option maxRecDepth 100000 in
theorem pk_25 : pgok 25 := by unfold pgok; decide +kernel
set_option maxRecDepth 100000 in
theorem pk_26 : pgok 26 := by unfold pgok; decide +kernel
set_option maxRecDepth 100000 in
theorem pk_27 : pgok 27 := by unfold pgok; decide +kernel
set_option maxRecDepth 100000 in
theorem pk_28 : pgok 28 := by unfold pgok; decide +kernel
set_option maxRecDepth 100000 in
theorem pk_29 : pgok 29 := by unfold pgok; decide +kernel
set_option maxRecDepth 100000 in
theorem pk_30 : pgok 30 := by unfold pgok; decide +kernel
set_option maxRecDepth 100000 in
theorem pk_31 : pgok 31 := by unfold pgok; decide +kernel
set_option maxRecDepth 100000 in
theorem pk_32 : pgok 32 := by unfold pgok; decide +kernel
set_option maxRecDepth 100000 in
theorem pk_33 : pgok 33 := by unfold pgok; decide +kernel
set_option maxRecDepth 100000 in
theorem pk_34 : pgok 34 := by unfold pgok; decide +kernel
set_option maxRecDepth 100000 in
theorem pk_35 : pgok 35 := by unfold pgok; decide +kernel
set_option maxRecDepth 100000 in
theorem pk_36 : pgok 36 := by unfold pgok; decide +kernel
set_option maxRecDepth 100000 in
theorem pk_37 : pgok 37 := by unfold pgok; decide +kernel
set_option maxRecDepth 100000 in
theorem pk_38 : pgok 38 := by unfold pgok; decide +kernel
set_option maxRecDepth 100000 in
theorem pk_39 : pgok 39 := by unfold pgok; decide +kernel
set_option maxRecDepth 100000 in
theorem pk_40 : pgok 40 := by unfold pgok; decide +kernel
set_option maxRecDepth 100000 in
theorem pk_41 : pgok 41 := by unfold pgok; decide +kernel
set_option maxRecDepth 100000 in
theorem pk_42 : pgok 42 := by unfold pgok; decide +kernel
set_option maxRecDepth 100000 in
theorem pk_43 : pgok 43 := by unfold pgok; decide +kernel
set_option maxRecDepth 100000 in
theorem pk_44 : pgok 44 := by unfold pgok; decide +kernel
set_option maxRecDepth 100000 in
theorem pk_45 : pgok 45 := by unfold pgok; decide +kernel
set_option maxRecDepth 100000 in
theorem pk_46 : pgok 46 := by unfold pgok; decide +kernel
set_option maxRecDepth 100000 in
theorem pk_47 : pgok 47 := by unfold pgok; decide +kernel
set_option maxRecDepth 100000 in
theorem pk_48 : pgok 48 := by unfold pgok; decide +kernel
set_option maxRecDepth 100000 in
theorem pk_49 : pgok 49 := by unfold pgok; decide +kernel
set_option maxRecDepth 100000 in
theorem pk_51 : pgok 51 := by unfold pgok; decide +kernel
set_option maxRecDepth 100000 in
theorem pk_52 : pgok 52 := by unfold pgok; decide +kernel
set_option maxRecDepth 100000 in
theorem pk_53 : pgok 53 := by unfold pgok; decide +kernel
set_option maxRecDepth 100000 in
theorem pk_54 : pgok 54 := by unfold pgok; decide +kernel
set_option maxRecDepth 100000 in
theorem pk_55 : pgok 55 := by unfold pgok; decide +kernel
set_option maxRecDepth 100000 in
theorem pk_56 : pgok 56 := by unfold pgok; decide +kernel
set_option maxRecDepth 100000 in
theorem pk_57 : pgok 57 := by unfold pgok; decide +kernel
set_option maxRecDepth 100000 in
theorem pk_58 : pgok 58 := by unfold pgok; decide +kernel
set_option maxRecDepth 100000 in
theorem pk_59 : pgok 59 := by unfold pgok; decide +kernel
set_option maxRecDepth 100000 in
theorem pk_60 : pgok 60 := by unfold pgok; decide +kernel
set_option maxRecDepth 100000 in
theorem pk_61 : pgok 61 := by unfold pgok; decide +kernel
set_option maxRecDepth 100000 in
theorem pk_62 : pgok 62 := by unfold pgok; decide +kernel
set_option maxRecDepth 100000 in
theorem pk_63 : pgok 63 := by unfold pgok; decide +kernel
set_option maxRecDepth 100000 in
theorem pk_64 : pgok 64 := by unfold pgok; decide +kernel
set_option maxRecDepth 100000 in
theorem pk_65 : pgok 65 := by unfold pgok; decide +kernel
set_option maxRecDepth 100000 in
theorem pk_66 : pgok 66 := by unfold pgok; decide +kernel
set_option maxRecDepth 100000 in
theorem pk_67 : pgok 67 := by unfold pgok; decide +kernel
set_option maxRecDepth 100000 in
theorem pk_68 : pgok 68 := by unfold pgok; decide +kernel
set_option maxRecDepth 100000 in
theorem pk_186 : pgok 186 := by unfold pgok; decide +kernel
set_option maxRecDepth 100000 in
theorem pk_187 : pgok 187 := by unfold pgok; decide +kernel
set_option maxRecDepth 100000 in
theorem pk_188 : pgok 188 := by unfold pgok; decide +kernel
set_option maxRecDepth 100000 in
theorem pk_189 : pgok 189 := by unfold pgok; decide +kernel
set_option maxRecDepth 100000 in
theorem pk_190 : pgok 190 := by unfold pgok; decide +kernel
set_option maxRecDepth 100000 in
theorem pk_191 : pgok 191 := by unfold pgok; decide +kernel
set_option maxRecDepth 100000 in
theorem pk_194 : pgok 194 := by unfold pgok; decide +kernel
set_option maxRecDepth 100000 in
theorem pk_195 : pgok 195 := by unfold pgok; decide +kernel
set_option maxRecDepth 100000 in
theorem pk_196 : pgok 196 := by unfold pgok; decide +kernel
set_option maxRecDepth 100000 in
theorem pk_197 : pgok 197 := by unfold pgok; decide +kernel
set_option maxRecDepth 100000 in
theorem pk_198 : pgok 198 := by unfold pgok; decide +kernel
set_option maxRecDepth 100000 in
theorem pk_200 : pgok 200 := by unfold pgok; decide +kernel
end
section
/-! the tables agree with the code, method by method -/
set_option maxRecDepth 100000 in
theorem pk_69 : pgok 69 := by unfold pgok; decide +kernel
set_option maxRecDepth 100000 in
theorem pk_70 : pgok 70 := by unfold pgok; decide +kernel
set_option maxRecDepth 100000 in
theorem pk_71 : pgok 71 := by unfold pgok; decide +kernel
set_option maxRecDepth 100000 in
theorem pk_72 : pgok 72 := by unfold pgok; decide +kernel
set_option maxRecDepth 100000 in
theorem pk_73 : pgok 73 := by unfold pgok; decide +kernel
set_option maxRecDepth 100000 in
theorem pk_74 : pgok 74 := by unfold pgok; decide +kernel
set_option maxRecDepth 100000 in
theorem pk_75 : pgok 75 := by unfold pgok; decide +kernel
set_option maxRecDepth 100000 in
theorem pk_76 : pgok 76 := by unfold pgok; decide +kernel
set_option maxRecDepth 100000 in
theorem pk_77 : pgok 77 := by unfold pgok; decide +kernel
set_option maxRecDepth 100000 in
theorem pk_78 : pgok 78 := by unfold pgok; decide +kernel
set_option maxRecDepth 100000 in
theorem pk_79 : pgok 79 := by unfold pgok; decide +kernel
set_option maxRecDepth 100000 in
theorem pk_80 : pgok 80 := by unfold pgok; decide +kernel
set_option maxRecDepth 100000 in
theorem pk_81 : pgok 81 := by unfold pgok; decide +kernel
set_option maxRecDepth 100000 in
theorem pk_82 : pgok 82 := by unfold pgok; decide +kernel
set_option maxRecDepth 100000 in
theorem pk_83 : pgok 83 := by unfold pgok; decide +kernel
set_option maxRecDepth 100000 in
theorem pk_84 : pgok 84 := by unfold pgok; decide +kernel
set_option maxRecDepth 100000 in
theorem pk_85 : pgok 85 := by unfold pgok; decide +kernel
set_option maxRecDepth 100000 in
theorem pk_86 : pgok 86 := by unfold pgok; decide +kernel
set_option maxRecDepth 100000 in
theorem pk_87 : pgok 87 := by unfold pgok; decide +kernel
set_option maxRecDepth 100000 in
theorem pk_88 : pgok 88 := by unfold pgok; decide +kernel
set_option maxRecDepth 100000 in
theorem pk_89 : pgok 89 := by unfold pgok; decide +kernel
set_option maxRecDepth 100000 in
theorem pk_90 : pgok 90 := by unfold pgok; decide +kernel
set_option maxRecDepth 100000 in
theorem pk_91 : pgok 91 := by unfold pgok; decide +kernel
set_option maxRecDepth 100000 in
theorem pk_92 : pgok 92 := by unfold pgok; decide +kernel
set_option maxRecDepth 100000 in
theorem pk_93 : pgok 93 := by unfold pgok; decide +kernel
set_option maxRecDepth 100000 in
theorem pk_94 : pgok 94 := by unfold pgok; decide +kernel
set_option maxRecDepth 100000 in
theorem pk_95 : pgok 95 := by unfold pgok; decide +kernel
set_option maxRecDepth 100000 in
theorem pk_96 : pgok 96 := by unfold pgok; decide +kernel
set_option maxRecDepth 100000 in
theorem pk_97 : pgok 97 := by unfold pgok; decide +kernel
set_option maxRecDepth 100000 in
theorem pk_98 : pgok 98 := by unfold pgok; decide +kernel
set_option maxRecDepth 100000 in
theorem pk_99 : pgok 99 := by unfold pgok; decide +kernel
set_option maxRecDepth 100000 in
theorem pk_100 : pgok 100 := by unfold pgok; decide +kernel
set_option maxRecDepth 100000 in
theorem pk_101 : pgok 101 := by unfold pgok; decide +kernel
set_option maxRecDepth 100000 in
theorem pk_102 : pgok 102 := by unfold pgok; decide +kernel
set_option maxRecDepth 100000 in
theorem pk_103 : pgok 103 := by unfold pgok; decide +kernel
set_option maxRecDepth 100000 in
theorem pk_104 : pgok 104 := by unfold pgok; decide +kernel
set_option maxRecDepth 100000 in
theorem pk_105 : pgok 105 := by unfold pgok; decide +kernel
set_option maxRecDepth 100000 in
theorem pk_106 : pgok 106 := by unfold pgok; decide +kernel
set_option maxRecDepth 100000 in
theorem pk_107 : pgok 107 := by unfold pgok; decide +kernel
set_option maxRecDepth 100000 in
theorem pk_108 : pgok 108 := by unfold pgok; decide +kernel
set_option maxRecDepth 100000 in
theorem pk_109 : pgok 109 := by unfold pgok; decide +kernel
set_option maxRecDepth 100000 in
theorem pk_110 : pgok 110 := by unfold pgok; decide +kernel
set_option maxRecDepth 100000 in
theorem pk_111 : pgok 111 := by unfold pgok; decide +kernel
set_option maxRecDepth 100000 in
theorem pk_112 : pgok 112 := by unfold pgok; decide +kernel
set_option maxRecDepth 100000 in
theorem pk_113 : pgok 113 := by unfold pgok; decide +kernel
set_option maxRecDepth 100000 in
theorem pk_114 : pgok 114 := by unfold pgok; decide +kernel
set_option maxRecDepth 100000 in
theorem pk_115 : pgok 115 := by unfold pgok; decide +kernel
set_option maxRecDepth 100000 in
theorem pk_116 : pgok 116 := by unfold pgok; decide +kernel
set_option maxRecDepth 100000 in
theorem pk_117 : pgok 117 := by unfold pgok; decide +kernel
end
section
/-! the tables agree with the code, method by method -/
set_option maxRecDepth 100000 in
theorem pk_118 : pgok 118 := by unfold pgok; decide +kernel
set_option maxRecDepth 100000 in
theorem pk_119 : pgok 119 := by unfold pgok; decide +kernel
set_option maxRecDepth 100000 in
theorem pk_120 : pgok 120 := by unfold pgok; decide +kernel
set_option maxRecDepth 100000 in
theorem pk_121 : pgok 121 := by unfold pgok; decide +kernel
set_option maxRecDepth 100000 in
theorem pk_122 : pgok 122 := by unfold pgok; decide +kernel
set_option maxRecDepth 100000 in
theorem pk_123 : pgok 123 := by unfold pgok; decide +kernel
set_option maxRecDepth 100000 in
theorem pk_124 : pgok 124 := by unfold pgok; decide +kernel
set_option maxRecDepth 100000 in
theorem pk_125 : pgok 125 := by unfold pgok; decide +kernel
set_option maxRecDepth 100000 in
theorem pk_126 : pgok 126 := by unfold pgok; decide +kernel
set_option maxRecDepth 100000 in
theorem pk_127 : pgok 127 := by unfold pgok; decide +kernel
set_option maxRecDepth 100000 in
theorem pk_128 : pgok 128 := by unfold pgok; decide +kernel
set_option maxRecDepth 100000 in
theorem pk_129 : pgok 129 := by unfold pgok; decide +kernel
set_option maxRecDepth 100000 in
theorem pk_130 : pgok 130 := by unfold pgok; decide +kernel
set_option maxRecDepth 100000 in
theorem pk_131 : pgok 131 := by unfold pgok; decide +kernel
set_option maxRecDepth 100000 in
theorem pk_132 : pgok 132 := by unfold pgok; decide +kernel
set_option maxRecDepth 100000 in
theorem pk_133 : pgok 133 := by unfold pgok; decide +kernel
set_option maxRecDepth 100000 in
theorem pk_134 : pgok 134 := by unfold pgok; decide +kernel
set_option maxRecDepth 100000 in
theorem pk_135 : pgok 135 := by unfold pgok; decide +kernel
set_option maxRecDepth 100000 in
theorem pk_136 : pgok 136 := by unfold pgok; decide +kernel
set_option maxRecDepth 100000 in
theorem pk_137 : pgok 137 := by unfold pgok; decide +kernel
set_option maxRecDepth 100000 in
theorem pk_138 : pgok 138 := by unfold pgok; decide +kernel
set_option maxRecDepth 100000 in
theorem pk_139 : pgok 139 := by unfold pgok; decide +kernel
set_option maxRecDepth 100000 in
theorem pk_140 : pgok 140 := by unfold pgok; decide +kernel
set_option maxRecDepth 100000 in
theorem pk_141 : pgok 141 := by unfold pgok; decide +kernel
set_option maxRecDepth 100000 in
theorem pk_142 : pgok 142 := by unfold pgok; decide +kernel
set_option maxRecDepth 100000 in
theorem pk_143 : pgok 143 := by unfold pgok; decide +kernel
set_option maxRecDepth 100000 in
theorem pk_144 : pgok 144 := by unfold pgok; decide +kernel
set_option maxRecDepth 100000 in
theorem pk_145 : pgok 145 := by unfold pgok; decide +kernel
set_option maxRecDepth 100000 in
theorem pk_146 : pgok 146 := by unfold pgok; decide +kernel
set_option maxRecDepth 100000 in
theorem pk_147 : pgok 147 := by unfold pgok; decide +kernel
set_option maxRecDepth 100000 in
theorem pk_148 : pgok 148 := by unfold pgok; decide +kernel
set_option maxRecDepth 100000 in
theorem pk_149 : pgok 149 := by unfold pgok; decide +kernel
set_option maxRecDepth 100000 in
theorem pk_150 : pgok 150 := by unfold pgok; decide +kernel
set_option maxRecDepth 100000 in
theorem pk_151 : pgok 151 := by unfold pgok; decide +kernel
set_option maxRecDepth 100000 in
theorem pk_152 : pgok 152 := by unfold pgok; decide +kernel
set_option maxRecDepth 100000 in
theorem pk_153 : pgok 153 := by unfold pgok; decide +kernel
set_option maxRecDepth 100000 in
theorem pk_154 : pgok 154 := by unfold pgok; decide +kernel
set_option maxRecDepth 100000 in
theorem pk_155 : pgok 155 := by unfold pgok; decide +kernel
set_option maxRecDepth 100000 in
theorem pk_156 : pgok 156 := by unfold pgok; decide +kernel
set_option maxRecDepth 100000 in
theorem pk_157 : pgok 157 := by unfold pgok; decide +kernel
set_option maxRecDepth 100000 in
theorem pk_158 : pgok 158 := by unfold pgok; decide +kernel
set_option maxRecDepth 100000 in
theorem pk_159 : pgok 159 := by unfold pgok; decide +kernel
set_option maxRecDepth 100000 in
theorem pk_160 : pgok 160 := by unfold pgok; decide +kernel
set_option maxRecDepth 100000 in
theorem pk_161 : pgok 161 := by unfold pgok; decide +kernel
set_option maxRecDepth 100000 in
theorem pk_162 : pgok 162 := by unfold pgok; decide +kernel
set_option maxRecDepth 100000 in
theorem pk_163 : pgok 163 := by unfold pgok; decide +kernel
set_option maxRecDepth 100000 in
theorem pk_164 : pgok 164 := by unfold pgok; decide +kernel
set_option maxRecDepth 100000 in
theorem pk_165 : pgok 165 := by unfold pgok; decide +kernel
set_option maxRecDepth 100000 in
theorem pk_166 : pgok 166 := by unfold pgok; decide +kernel
set_option maxRecDepth 100000 in
theorem pk_167 : pgok 167 := by unfold pgok; decide +kernel
set_option maxRecDepth 100000 in
theorem pk_168 : pgok 168 := by unfold pgok; decide +kernel
set_option maxRecDepth 100000 in
theorem pk_169 : pgok 169 := by unfold pgok; decide +kernel
set_option maxRecDepth 100000 in
theorem pk_170 : pgok 170 := by unfold pgok; decide +kernel
set_option maxRecDepth 100000 in
theorem pk_171 : pgok 171 := by unfold pgok; decide +kernel
set_option maxRecDepth 100000 in
theorem pk_172 : pgok 172 := by unfold pgok; decide +kernel
set_option maxRecDepth 100000 in
theorem pk_173 : pgok 173 := by unfold pgok; decide +kernel
set_option maxRecDepth 100000 in
theorem pk_174 : pgok 174 := by unfold pgok; decide +kernel
set_option maxRecDepth 100000 in
theorem pk_175 : pgok 175 := by unfold pgok; decide +kernel
set_option maxRecDepth 100000 in
theorem pk_176 : pgok 176 := by unfold pgok; decide +kernel
set_option maxRecDepth 100000 in
theorem pk_177 : pgok 177 := by unfold pgok; decide +kernel
set_option maxRecDepth 100000 in
theorem pk_178 : pgok 178 := by unfold pgok; decide +kernel
set_option maxRecDepth 100000 in
theorem pk_179 : pgok 179 := by unfold pgok; decide +kernel
set_option maxRecDepth 100000 in
theorem pk_180 : pgok 180 := by unfold pgok; decide +kernel
set_option maxRecDepth 100000 in
theorem pk_181 : pgok 181 := by unfold pgok; decide +kernel
set_option maxRecDepth 100000 in
theorem pk_182 : pgok 182 := by unfold pgok; decide +kernel
set_option maxRecDepth 100000 in
theorem pk_183 : pgok 183 := by unfold pgok; decide +kernel
set_option maxRecDepth 100000 in
theorem pk_184 : pgok 184 := by unfold pgok; decide +kernel
set_option maxRecDepth 100000 in
theorem pk_185 : pgok 185 := by unfold pgok; decide +kernel
end
section
/-! small methods of both sides, by cases -/
theorem ct_within {d : Nat} {x a b : Int32} {S : xS} {Q : xQ} (h1 : a ≤ x → x ≤ b → Q (some (.inl 1)) S) (h0 : ¬ (a ≤ x ∧ x ≤ b) → Q (some (.inl 0)) S) : CT d 0 0 m_C_within [.inl x, .inl a, .inl b] S Q := by
  refine ct_of (xmok_all (by decide)) rfl ?_
  refine V_go pk_70 [] 50 ?_
  refine And.intro (fun c1 => ?_) (fun c1 => ?_)
  · exact And.intro (Or.inl rfl) (h0 (fun q => absurd q.1 (Int32.not_le.mpr c1)))
  · refine And.intro (fun c2 => ?_) (fun c2 => ?_)
    · exact And.intro (Or.inl rfl) (h0 (fun q => absurd q.2 (Int32.not_le.mpr c2)))
    · exact And.intro (Or.inr rfl) (h1 (Int32.not_lt.mp c1) (Int32.not_lt.mp c2))
theorem lg_lt {x y : Int64} : lg_cmp x y < 0 ↔ x < y := by
  unfold lg_cmp
  by_cases h : x > y
  · rw [if_pos h]
    exact ⟨fun q => absurd q (by decide), fun q => absurd (show x < x from Int64.lt_trans q h) Int64.lt_irrefl⟩
  · rw [if_neg h]
    by_cases e : x = y
    · rw [if_pos e]
      exact ⟨fun q => absurd q (by decide), fun q => absurd (show y < y from e ▸ q) Int64.lt_irrefl⟩
    · rw [if_neg e]
      exact ⟨fun _ => Int64.lt_of_le_of_ne (Int64.not_lt.mp h) e, fun _ => by decide⟩
theorem lg_gt {x y : Int64} : 0 < lg_cmp x y ↔ y < x := by
  unfold lg_cmp
  by_cases h : x > y
  · rw [if_pos h]
    exact ⟨fun _ => h, fun _ => by decide⟩
  · rw [if_neg h]
    by_cases e : x = y
    · rw [if_pos e]
      exact ⟨fun q => absurd q (by decide), fun q => absurd q h⟩
    · rw [if_neg e]
      exact ⟨fun q => absurd q (by decide), fun q => absurd q h⟩
theorem ct_M_isIn {d : Nat} {x a b : Int64} {S : xS} {Q : xQ} (h1 : a ≤ x → x ≤ b → Q (some (.inl 1)) S) (h0 : ¬ (a ≤ x ∧ x ≤ b) → Q (some (.inl 0)) S) : CT d 0 0 m_M_isIn [.inr (.inl x), .inr (.inl a), .inr (.inl b)] S Q := by
  refine ct_of (xmok_all (by decide)) rfl ?_
  refine V_go pk_119 [] 50 ?_
  refine And.intro (fun c1 => ?_) (fun c1 => ?_)
  · exact And.intro (Or.inl rfl) (h0 (fun q => absurd q.1 (Int64.not_le.mpr (lg_lt.mp c1))))
  · refine And.intro (fun c2 => ?_) (fun c2 => ?_)
    · exact And.intro (Or.inl rfl) (h0 (fun q => absurd q.2 (Int64.not_le.mpr (lg_gt.mp c2))))
    · exact And.intro (Or.inr rfl) (h1 (Int64.not_lt.mp (fun q => c1 (lg_lt.mpr q))) (Int64.not_lt.mp (fun q => c2 (lg_gt.mpr q))))
theorem ct_C_isGood {d : Nat} {x : Int32} {S : xS} {Q : xQ} (h1 : 0 ≤ x → x ≤ 3 → Q (some (.inl 1)) S) (h0 : ¬ (0 ≤ x ∧ x ≤ 3) → Q (some (.inl 0)) S) : CT (d + 1) 0 0 m_C_isGood [.inl x] S Q := by
  refine ct_of (xmok_all (by decide)) rfl ?_
  refine V_go pk_73 [] 50 ?_
  refine ct_within (fun c1 c2 => ?_) (fun c => ?_)
  · exact And.intro (Or.inr rfl) (h1 c1 c2)
  · exact And.intro (Or.inl rfl) (h0 c)
theorem ct_M_isIn32 {d : Nat} {x a b : Int32} {a' b' : Int64} {S : xS} {Q : xQ} (ha : a.toInt64 = a') (hb : b.toInt64 = b') (h1 : a ≤ x → x ≤ b → Q (some (.inl 1)) S) (h0 : ¬ (a ≤ x ∧ x ≤ b) → Q (some (.inl 0)) S) : CT d 0 0 m_M_isIn [.inr (.inl x.toInt64), .inr (.inl a'), .inr (.inl b')] S Q := by
  have e : ∀ u w : Int32, u.toInt64 ≤ w.toInt64 ↔ u ≤ w := fun u w => by rw [Int64.le_iff_toInt_le, Int32.le_iff_toInt_le, Int32.toInt_toInt64, Int32.toInt_toInt64]
  subst ha; subst hb
  exact ct_M_isIn (fun c1 c2 => h1 ((e _ _).mp c1) ((e _ _).mp c2)) (fun c => h0 (fun q => c ⟨(e _ _).mpr q.1, (e _ _).mpr q.2⟩))
theorem ct_C_isSheet {d : Nat} {x : Int32} {S : xS} {Q : xQ} (h1 : 0 ≤ x → x ≤ 3 → Q (some (.inl 1)) S) (h0 : ¬ (0 ≤ x ∧ x ≤ 3) → Q (some (.inl 0)) S) : CT (d + 1) 0 0 m_C_isSheet [.inl x] S Q := by
  refine ct_of (xmok_all (by decide)) rfl ?_
  refine V_go pk_77 [] 50 ?_
  refine ct_within (fun c1 c2 => ?_) (fun c => ?_)
  · exact And.intro (Or.inr rfl) (h1 c1 c2)
  · exact And.intro (Or.inl rfl) (h0 c)
theorem ct_Sea_has {d : Nat} {x : Int32} {S : xS} {Q : xQ} (h1 : 0 ≤ x → x ≤ S.1 1 0 2 - 1 → Q (some (.inl 1)) S) (h0 : ¬ (0 ≤ x ∧ x ≤ S.1 1 0 2 - 1) → Q (some (.inl 0)) S) : CT (d + 1) 0 0 m_Sea_has [.inr (.inr (1, 0)), .inl x] S Q := by
  refine ct_of (xmok_all (by decide)) rfl ?_
  refine V_go pk_43 [] 50 ?_
  refine ct_within (fun c1 c2 => ?_) (fun c => ?_)
  · exact And.intro (Or.inr rfl) (h1 c1 c2)
  · exact And.intro (Or.inl rfl) (h0 c)
theorem ct_Sheet_holds {d i : Nat} {x : Int32} {S : xS} {Q : xQ} (h1 : 0 ≤ x → x ≤ S.1 21 i 2 - 1 → Q (some (.inl 1)) S) (h0 : ¬ (0 ≤ x ∧ x ≤ S.1 21 i 2 - 1) → Q (some (.inl 0)) S) : CT (d + 1) 0 0 m_Sheet_holds [.inr (.inr (21, i)), .inl x] S Q := by
  refine ct_of (xmok_all (by decide)) rfl ?_
  refine V_go pk_47 [] 50 ?_
  refine ct_within (fun c1 c2 => ?_) (fun c => ?_)
  · exact And.intro (Or.inr rfl) (h1 c1 c2)
  · exact And.intro (Or.inl rfl) (h0 c)
theorem ct_Sheet_missing {d i : Nat} {S : xS} {Q : xQ} (h1 : S.1 21 i 1 = -1 → Q (some (.inl 1)) S) (h0 : ¬ S.1 21 i 1 = -1 → Q (some (.inl 0)) S) : CT d 0 0 m_Sheet_missing [.inr (.inr (21, i))] S Q := by
  refine ct_of (xmok_all (by decide)) rfl ?_
  refine V_go pk_46 [] 50 ?_
  refine And.intro (fun c => ?_) (fun c => ?_)
  · exact And.intro (Or.inl rfl) (h0 c)
  · exact And.intro (Or.inr rfl) (h1 c)
theorem ct_C_clamp {d : Nat} {x a b : Int32} {S : xS} {Q : xQ} (h : Q (some (.inl (if a < (if b < x then b else x) then (if b < x then b else x) else a))) S) : CT (d + 1) 0 0 m_C_clamp [.inl x, .inl a, .inl b] S Q := by
  refine ct_of (xmok_all (by decide)) rfl ?_
  exact V_go pk_78 [] 50 h
theorem ct_C_monthOf {d : Nat} {x : Int32} {S : xS} {Q : xQ} (h : Q (some (.inl (x / 30 - x / 30 / 12 * 12))) S) : CT d 0 0 m_C_monthOf [.inl x] S Q := by
  refine ct_of (xmok_all (by decide)) rfl ?_
  refine V_go pk_80 [] 50 ?_
  refine And.intro (by decide) ?_
  refine And.intro (by decide) ?_
  exact h
theorem vin {x : Int32} {n : Nat} {m : Int32} (hm : m.toInt = (n : Int) - 1) (h0 : 0 ≤ x) (h1 : x ≤ m) : vp_in x n := by
  have e0 := Int32.le_iff_toInt_le.mp h0
  have e1 := Int32.le_iff_toInt_le.mp h1
  rw [show (0 : Int32).toInt = 0 from rfl] at e0
  intro q
  rcases q with q | q
  · have := Int32.lt_iff_toInt_lt.mp q
    rw [show (0 : Int32).toInt = 0 from rfl] at this
    omega
  · have : x.toNatClampNeg = x.toInt.toNat := rfl
    omega
def pPrice (S : xS) (i : Nat) (g : Int32) : Int32 := if 1 < S.1 5 i g.toNatClampNeg - S.1 6 i g.toNatClampNeg * S.1 7 i g.toNatClampNeg / 10 then S.1 5 i g.toNatClampNeg - S.1 6 i g.toNatClampNeg * S.1 7 i g.toNatClampNeg / 10 else 1
theorem ct_Port_priceOf {d i : Nat} {g : Int32} {S : xS} {Q : xQ} (hg : vp_in g 4) (h : Q (some (.inl (pPrice S i g))) S) : CT (d + 1) 0 0 m_Port_priceOf [.inr (.inr (4, i)), .inl g] S Q := by
  refine ct_of (xmok_all (by decide)) rfl ?_
  refine V_go pk_19 [] 50 ?_
  refine And.intro hg ?_
  refine And.intro hg ?_
  refine And.intro hg ?_
  refine And.intro (by decide) ?_
  exact h
/-! the model's small methods -/
theorem ct_M_isPort {d : Nat} {x : Int32} {S : xS} {Q : xQ} (h1 : 0 ≤ x → x < S.1 36 0 1 → Q (some (.inl 1)) S) (h0 : ¬ (0 ≤ x ∧ x < S.1 36 0 1) → Q (some (.inl 0)) S) : CT d 0 0 m_M_isPort [.inr (.inr (36, 0)), .inl x] S Q := by
  refine ct_of (xmok_all (by decide)) rfl ?_
  refine V_go pk_121 [] 50 ?_
  refine And.intro (fun c1 => ?_) (fun c1 => ?_)
  · exact And.intro (Or.inl rfl) (h0 (fun q => absurd q.1 (Int32.not_le.mpr c1)))
  · refine And.intro (fun c2 => ?_) (fun c2 => ?_)
    · exact And.intro (Or.inl rfl) (h0 (fun q => absurd q.2 (Int32.not_lt.mpr c2)))
    · exact And.intro (Or.inr rfl) (h1 (Int32.not_lt.mp c1) (Int32.not_le.mp c2))
theorem ct_M_isGood {d : Nat} {x : Int32} {S : xS} {Q : xQ} (h1 : 0 ≤ x → x ≤ 3 → Q (some (.inl 1)) S) (h0 : ¬ (0 ≤ x ∧ x ≤ 3) → Q (some (.inl 0)) S) : CT (d + 1) 0 0 m_M_isGood [.inl x] S Q := by
  refine ct_of (xmok_all (by decide)) rfl ?_
  refine V_go pk_122 [] 50 ?_
  refine ct_M_isIn32 (a := 0) (b := 3) rfl rfl (fun c1 c2 => ?_) (fun c => ?_)
  · exact And.intro (Or.inr rfl) (h1 c1 c2)
  · exact And.intro (Or.inl rfl) (h0 c)
def mPrice (S : xS) (p g : Int32) : Int32 := if S.1 39 0 (4 * p + g).toNatClampNeg - S.1 40 0 (4 * p + g).toNatClampNeg * S.1 41 0 (4 * p + g).toNatClampNeg / 10 < 1 then 1 else S.1 39 0 (4 * p + g).toNatClampNeg - S.1 40 0 (4 * p + g).toNatClampNeg * S.1 41 0 (4 * p + g).toNatClampNeg / 10
theorem ct_M_priceOf {d : Nat} {p g : Int32} {S : xS} {Q : xQ} (hg : vp_in (4 * p + g) 24) (h : Q (some (.inl (mPrice S p g))) S) : CT d 0 0 m_M_priceOf [.inr (.inr (36, 0)), .inl p, .inl g] S Q := by
  refine ct_of (xmok_all (by decide)) rfl ?_
  refine V_go pk_123 [] 60 ?_
  refine And.intro hg ?_
  refine And.intro hg ?_
  refine And.intro hg ?_
  refine And.intro (by decide) ?_
  refine And.intro (fun c => ?_) (fun c => ?_)
  · unfold mPrice at h
    rw [if_neg (Int32.not_lt.mpr c)] at h
    exact h
  · unfold mPrice at h
    rw [if_pos (Int32.not_le.mp c)] at h
    exact h
end
section
/-! ports and winds: what ties the two sides, and the calls port, wants, price, wind -/
abbrev C0 : xV := .inr (.inr (0, 0))
abbrev M0 : xV := .inr (.inr (36, 0))
def IA (n : Nat) (S : xS) : Prop :=
  (0 ≤ S.1 1 0 2 ∧ S.1 1 0 2 ≤ 6) ∧ S.1 36 0 1 = S.1 1 0 2 ∧
  (∀ p : Nat, p < 6 → S.1 37 0 p = S.1 4 p 0 ∧ S.1 38 0 p = S.1 4 p 1 ∧ (0 ≤ S.1 4 p 0 ∧ S.1 4 p 0 ≤ 99) ∧ 0 ≤ S.1 4 p 1 ∧ S.1 4 p 1 ≤ 99) ∧
  (∀ p g : Nat, p < 6 → g < 4 → (S.1 39 0 (4 * p + g) = S.1 5 p g ∧ S.1 40 0 (4 * p + g) = S.1 6 p g ∧ S.1 41 0 (4 * p + g) = S.1 7 p g) ∧ (0 ≤ S.1 5 p g ∧ S.1 5 p g ≤ 99) ∧ (0 ≤ S.1 6 p g ∧ S.1 6 p g ≤ 9) ∧ 0 ≤ S.1 7 p g ∧ (S.1 7 p g).toInt ≤ 99 * (n : Int)) ∧
  (∀ m : Nat, m < 12 → S.1 42 0 m = S.1 3 0 m ∧ -2 ≤ S.1 3 0 m ∧ S.1 3 0 m ≤ 2)
theorem IA.succ {n : Nat} {S : xS} (h : IA n S) : IA (n + 1) S := by
  obtain ⟨h1, h2, h3, h4, h5⟩ := h
  refine ⟨h1, h2, h3, fun p g hp hg => ?_, h5⟩
  obtain ⟨q1, q2, q3, q4, q5⟩ := h4 p g hp hg
  exact ⟨q1, q2, q3, q4, by omega⟩
/-! small numbers: an int between 0 and m is a natural number -/
theorem toN {x : Int32} (h0 : 0 ≤ x) : (x.toNatClampNeg : Int) = x.toInt := by
  have e0 := Int32.le_iff_toInt_le.mp h0
  rw [show (0 : Int32).toInt = 0 from rfl] at e0
  have : x.toNatClampNeg = x.toInt.toNat := rfl
  omega
theorem leI {x y : Int32} (h : x ≤ y) : x.toInt ≤ y.toInt := Int32.le_iff_toInt_le.mp h
theorem ltI {x y : Int32} (h : x < y) : x.toInt < y.toInt := Int32.lt_iff_toInt_lt.mp h
theorem adI {x y : Int32} (h0 : -2147483648 ≤ x.toInt + y.toInt) (h1 : x.toInt + y.toInt < 2147483648) : (x + y).toInt = x.toInt + y.toInt := by
  rw [Int32.toInt_add]; exact Int.bmod_eq_of_le (by omega) (by omega)
theorem sbI {x y : Int32} (h0 : -2147483648 ≤ x.toInt - y.toInt) (h1 : x.toInt - y.toInt < 2147483648) : (x - y).toInt = x.toInt - y.toInt := by
  rw [Int32.toInt_sub]; exact Int.bmod_eq_of_le (by omega) (by omega)
theorem mlI {x y : Int32} (h0 : -2147483648 ≤ x.toInt * y.toInt) (h1 : x.toInt * y.toInt < 2147483648) : (x * y).toInt = x.toInt * y.toInt := by
  rw [Int32.toInt_mul]; exact Int.bmod_eq_of_le (by omega) (by omega)
/-- the place of a good of a port in the model's rows -/
theorem at4 {p g : Int32} (hp : 0 ≤ p) (hp5 : p ≤ 5) (hg : 0 ≤ g) (hg3 : g ≤ 3) : (4 * p + g).toNatClampNeg = 4 * p.toNatClampNeg + g.toNatClampNeg ∧ vp_in (4 * p + g) 24 ∧ p.toNatClampNeg < 6 ∧ g.toNatClampNeg < 4 := by
  have a1 := leI hp; have a2 := leI hp5; have a3 := leI hg; have a4 := leI hg3
  rw [show (0 : Int32).toInt = 0 from rfl] at a1 a3
  rw [show (5 : Int32).toInt = 5 from rfl] at a2
  rw [show (3 : Int32).toInt = 3 from rfl] at a4
  have e1 : (4 * p).toInt = 4 * p.toInt := by
    have := mlI (x := 4) (y := p) (by rw [show (4 : Int32).toInt = 4 from rfl]; omega) (by rw [show (4 : Int32).toInt = 4 from rfl]; omega)
    rw [this]; rfl
  have e2 : (4 * p + g).toInt = 4 * p.toInt + g.toInt := by rw [adI (by omega) (by omega), e1]
  have b1 := toN hp
  have b2 := toN hg
  have h0 : (0 : Int32) ≤ 4 * p + g := Int32.le_iff_toInt_le.mpr (by rw [e2, show (0 : Int32).toInt = 0 from rfl]; omega)
  have b3 := toN h0
  refine ⟨by omega, vin (m := 23) rfl h0 (Int32.le_iff_toInt_le.mpr (by rw [e2, show (23 : Int32).toInt = 23 from rfl]; omega)), by omega, by omega⟩
/-- a port's number: both sides agree which they are -/
theorem isP {S : xS} {n : Nat} (h : IA n S) {p : Int32} : (p ≤ S.1 1 0 2 - 1 ↔ p < S.1 36 0 1) ∧ (p ≤ S.1 1 0 2 - 1 → p ≤ 5) := by
  obtain ⟨⟨h1, h2⟩, h3, -⟩ := h
  have a1 := leI h1; have a2 := leI h2
  rw [show (0 : Int32).toInt = 0 from rfl] at a1
  rw [show (6 : Int32).toInt = 6 from rfl] at a2
  have e : (S.1 1 0 2 - 1).toInt = (S.1 1 0 2).toInt - 1 := by rw [sbI (by rw [show (1 : Int32).toInt = 1 from rfl]; omega) (by rw [show (1 : Int32).toInt = 1 from rfl]; omega)]; rfl
  rw [h3]
  refine ⟨⟨fun q => Int32.lt_iff_toInt_lt.mpr ?_, fun q => Int32.le_iff_toInt_le.mpr ?_⟩, fun q => Int32.le_iff_toInt_le.mpr ?_⟩
  · have := leI q; omega
  · have := ltI q; omega
  · have := leI q; rw [show (5 : Int32).toInt = 5 from rfl]; omega
theorem pm_price {S : xS} {n : Nat} (h : IA n S) {p g : Int32} (hp : 0 ≤ p) (hp5 : p ≤ 5) (hg : 0 ≤ g) (hg3 : g ≤ 3) : mPrice S p g = pPrice S p.toNatClampNeg g := by
  obtain ⟨e, -, e1, e2⟩ := at4 hp hp5 hg hg3
  obtain ⟨-, -, -, h4, -⟩ := h
  obtain ⟨⟨q1, q2, q3⟩, -⟩ := h4 _ _ e1 e2
  unfold mPrice pPrice
  rw [e, q1, q2, q3]
  generalize S.1 5 p.toNatClampNeg g.toNatClampNeg - S.1 6 p.toNatClampNeg g.toNatClampNeg * S.1 7 p.toNatClampNeg g.toNatClampNeg / 10 = v
  by_cases q : v < 1
  · rw [if_pos q, if_neg (fun q2 => Int32.lt_irrefl (Int32.lt_trans q q2))]
  · rw [if_neg q]
    by_cases q2 : 1 < v
    · rw [if_pos q2]
    · rw [if_neg q2]
      exact Int32.le_antisymm (Int32.not_lt.mp q2) (Int32.not_lt.mp q)
/-- what a call may change: by kind and place -/
def Fr (f : Nat → Nat → Bool) (S S2 : xS) : Prop := (∀ k i j, f k j = false → S2.1 k i j = S.1 k i j) ∧ S2.2 = S.2
theorem Fr.rf {f : Nat → Nat → Bool} {S : xS} : Fr f S S := ⟨fun _ _ _ _ => rfl, rfl⟩
theorem Fr.up {f : Nat → Nat → Bool} {S S2 : xS} (h : Fr f S S2) {k i j : Nat} {x : Int32} (hk : f k j = true) : Fr f S (xupd S2 k i j x) := by
  refine ⟨fun k' i' j' hf => ?_, h.2⟩
  show (if k' = k ∧ i' = i ∧ j' = j then x else S2.1 k' i' j') = _
  rw [if_neg (fun q => by rw [q.1, q.2.2, hk] at hf; cases hf)]
  exact h.1 k' i' j' hf
theorem xu_k {S : xS} {k i j k' i' j' : Nat} {x : Int32} (h : Nat.beq k' k = false) : (xupd S k i j x).1 k' i' j' = S.1 k' i' j' := if_neg (fun q => by rw [q.1, Nat.beq_refl] at h; cases h)
theorem xu_j {S : xS} {k i j k' i' j' : Nat} {x : Int32} (h : Nat.beq j' j = false) : (xupd S k i j x).1 k' i' j' = S.1 k' i' j' := if_neg (fun q => by rw [q.2.2, Nat.beq_refl] at h; cases h)
theorem xu_e {S : xS} {k i j j' : Nat} {x : Int32} : (xupd S k i j x).1 k i j' = if j' = j then x else S.1 k i j' := by
  show (if k = k ∧ i = i ∧ j' = j then x else S.1 k i j') = _
  simp only [true_and]
theorem xu_i {S : xS} {k i j i' j' : Nat} {x : Int32} : (xupd S k i j x).1 k i' j' = if i' = i ∧ j' = j then x else S.1 k i' j' := by
  show (if k = k ∧ i' = i ∧ j' = j then x else S.1 k i' j') = _
  simp only [true_and]
theorem mm_price_bad {S : xS} {n : Nat} (h : IA n S) {p g : Int32} (hb : ¬ (0 ≤ p ∧ p ≤ S.1 1 0 2 - 1) ∨ ¬ (0 ≤ g ∧ g ≤ 3)) {Q : xQ} (hq : Q (some (.inl (-2))) S) : CT 2 0 0 m_M_price [M0, .inl p, .inl g] S Q := by
  refine ct_of (xmok_all (by decide)) rfl ?_
  refine V_go (pc := 0) pk_124 [] 60 ?_
  refine ct_M_isPort (fun c1 c2 => ?_) (fun c => ?_)
  · (repeat' first | (refine And.intro (fun q => absurd q (by decide)) (fun _ => ?_)) | (refine And.intro (fun _ => ?_) (fun q => absurd q (by decide))) | fail)
    refine ct_M_isGood (fun c3 c4 => ?_) (fun c => ?_)
    · exact absurd ⟨c3, c4⟩ (hb.resolve_left (fun q => q ⟨c1, (isP h).1.mpr c2⟩))
    · (repeat' first | (refine And.intro (fun q => absurd q (by decide)) (fun _ => ?_)) | (refine And.intro (fun _ => ?_) (fun q => absurd q (by decide))) | fail)
      exact hq
  · (repeat' first | (refine And.intro (fun q => absurd q (by decide)) (fun _ => ?_)) | (refine And.intro (fun _ => ?_) (fun q => absurd q (by decide))) | fail)
    exact hq
theorem cm_price {S : xS} {n : Nat} (h : IA n S) {p g : Int32} : CT 2 0 0 m_C_price [C0, .inl p, .inl g] S (fun r S1 => CT 2 0 0 m_M_price [M0, .inl p, .inl g] S1 (fun r' S2 => r' = r ∧ S2 = S)) := by
  refine ct_of (xmok_all (by decide)) rfl ?_
  refine V_go (pc := 0) pk_74 [] 60 ?_
  refine ct_Sea_has (fun c1 c2 => ?_) (fun c => ?_)
  · (repeat' first | (refine And.intro (fun q => absurd q (by decide)) (fun _ => ?_)) | (refine And.intro (fun _ => ?_) (fun q => absurd q (by decide))) | fail)
    refine ct_C_isGood (fun c3 c4 => ?_) (fun c => ?_)
    · (repeat' first | (refine And.intro (fun q => absurd q (by decide)) (fun _ => ?_)) | (refine And.intro (fun _ => ?_) (fun q => absurd q (by decide))) | fail)
      have hp5 := (isP h).2 c2
      obtain ⟨e, e24, e1, e2⟩ := at4 c1 hp5 c3 c4
      refine And.intro (vin (m := 5) rfl c1 hp5) ?_
      refine ct_Port_priceOf (vin (m := 3) rfl c3 c4) ?_
      refine ct_of (xmok_all (by decide)) rfl ?_
      refine V_go (pc := 0) pk_124 [] 60 ?_
      refine ct_M_isPort (fun _ _ => ?_) (fun c => absurd ⟨c1, (isP h).1.mp c2⟩ c)
      (repeat' first | (refine And.intro (fun q => absurd q (by decide)) (fun _ => ?_)) | (refine And.intro (fun _ => ?_) (fun q => absurd q (by decide))) | fail)
      refine ct_M_isGood (fun _ _ => ?_) (fun c => absurd ⟨c3, c4⟩ c)
      (repeat' first | (refine And.intro (fun q => absurd q (by decide)) (fun _ => ?_)) | (refine And.intro (fun _ => ?_) (fun q => absurd q (by decide))) | fail)
      refine ct_M_priceOf e24 ?_
      exact ⟨by rw [pm_price h c1 hp5 c3 c4], rfl⟩
    · (repeat' first | (refine And.intro (fun q => absurd q (by decide)) (fun _ => ?_)) | (refine And.intro (fun _ => ?_) (fun q => absurd q (by decide))) | fail)
      exact mm_price_bad h (Or.inr c) ⟨rfl, rfl⟩
  · (repeat' first | (refine And.intro (fun q => absurd q (by decide)) (fun _ => ?_)) | (refine And.intro (fun _ => ?_) (fun q => absurd q (by decide))) | fail)
    exact mm_price_bad h (Or.inl c) ⟨rfl, rfl⟩
abbrev fWind (k _j : Nat) : Bool := Nat.beq k 3 || Nat.beq k 42
theorem IA.wind {S : xS} {n : Nat} (h : IA n S) {m : Nat} {w : Int32} (hw : -2 ≤ w ∧ w ≤ 2) : IA n (xupd (xupd S 3 0 m w) 42 0 m w) := by
  obtain ⟨h1, h2, h3, h4, h5⟩ := h
  refine ⟨h1, h2, h3, h4, fun m' hm => ?_⟩
  rw [xu_e, xu_k (k' := 3) rfl, xu_k (k' := 42) rfl, xu_e]
  by_cases e : m' = m
  · rw [if_pos e, if_pos e]; exact ⟨rfl, hw⟩
  · rw [if_neg e, if_neg e]; exact h5 m' hm
theorem mm_wind_bad {S : xS} {m w : Int32} (hb : ¬ (0 ≤ m ∧ m ≤ 11) ∨ ¬ (-2 ≤ w ∧ w ≤ 2)) {Q : xQ} (hq : Q (some (.inl (-2))) S) : CT 2 0 0 m_M_wind [M0, .inl m, .inl w] S Q := by
  refine ct_of (xmok_all (by decide)) rfl ?_
  refine V_go (pc := 0) pk_125 [] 60 ?_
  refine ct_M_isIn32 (a := 0) (b := 11) rfl rfl (fun c1 c2 => ?_) (fun c => ?_)
  · (repeat' first | (refine And.intro (fun q => absurd q (by decide)) (fun _ => ?_)) | (refine And.intro (fun _ => ?_) (fun q => absurd q (by decide))) | fail)
    refine ct_M_isIn32 (a := -2) (b := 2) rfl rfl (fun c3 c4 => ?_) (fun c => ?_)
    · exact absurd ⟨c3, c4⟩ (hb.resolve_left (fun q => q ⟨c1, c2⟩))
    · (repeat' first | (refine And.intro (fun q => absurd q (by decide)) (fun _ => ?_)) | (refine And.intro (fun _ => ?_) (fun q => absurd q (by decide))) | fail)
      exact hq
  · (repeat' first | (refine And.intro (fun q => absurd q (by decide)) (fun _ => ?_)) | (refine And.intro (fun _ => ?_) (fun q => absurd q (by decide))) | fail)
    exact hq
theorem cm_wind {S : xS} {n : Nat} (h : IA n S) {m w : Int32} : CT 2 0 0 m_C_wind [C0, .inl m, .inl w] S (fun r S1 => CT 2 0 0 m_M_wind [M0, .inl m, .inl w] S1 (fun r' S2 => r' = r ∧ IA n S2 ∧ Fr fWind S S2)) := by
  refine ct_of (xmok_all (by decide)) rfl ?_
  refine V_go (pc := 0) pk_75 [] 60 ?_
  refine ct_within (fun c1 c2 => ?_) (fun c => ?_)
  · (repeat' first | (refine And.intro (fun q => absurd q (by decide)) (fun _ => ?_)) | (refine And.intro (fun _ => ?_) (fun q => absurd q (by decide))) | fail)
    refine ct_within (fun c3 c4 => ?_) (fun c => ?_)
    · (repeat' first | (refine And.intro (fun q => absurd q (by decide)) (fun _ => ?_)) | (refine And.intro (fun _ => ?_) (fun q => absurd q (by decide))) | fail)
      refine And.intro (vin (m := 11) rfl c1 c2) ?_
      refine ct_of (xmok_all (by decide)) rfl ?_
      refine V_go (pc := 0) pk_125 [] 60 ?_
      refine ct_M_isIn32 (a := 0) (b := 11) rfl rfl (fun _ _ => ?_) (fun c => absurd ⟨c1, c2⟩ c)
      (repeat' first | (refine And.intro (fun q => absurd q (by decide)) (fun _ => ?_)) | (refine And.intro (fun _ => ?_) (fun q => absurd q (by decide))) | fail)
      refine ct_M_isIn32 (a := -2) (b := 2) rfl rfl (fun _ _ => ?_) (fun c => absurd ⟨c3, c4⟩ c)
      (repeat' first | (refine And.intro (fun q => absurd q (by decide)) (fun _ => ?_)) | (refine And.intro (fun _ => ?_) (fun q => absurd q (by decide))) | fail)
      refine And.intro (vin (m := 11) rfl c1 c2) ?_
      exact ⟨rfl, h.wind ⟨c3, c4⟩, (Fr.rf.up rfl).up rfl⟩
    · (repeat' first | (refine And.intro (fun q => absurd q (by decide)) (fun _ => ?_)) | (refine And.intro (fun _ => ?_) (fun q => absurd q (by decide))) | fail)
      exact mm_wind_bad (Or.inr c) ⟨rfl, h, Fr.rf⟩
  · (repeat' first | (refine And.intro (fun q => absurd q (by decide)) (fun _ => ?_)) | (refine And.intro (fun _ => ?_) (fun q => absurd q (by decide))) | fail)
    exact mm_wind_bad (Or.inl c) ⟨rfl, h, Fr.rf⟩
end
section
/-! Arrays.fill of the short rows; port and wants -/
theorem xu {S : xS} {k i j k' i' j' : Nat} {x : Int32} : (xupd S k i j x).1 k' i' j' = if k' = k ∧ i' = i ∧ j' = j then x else S.1 k' i' j' := rfl
theorem ct_fill_5 {d i : Nat} {v : Int32} {S : xS} {Q : xQ} (h : Q none (xupd (xupd (xupd (xupd (S) 5 i 0 v) 5 i 1 v) 5 i 2 v) 5 i 3 v)) : CT d 0 0 m_Arrays_fill [.inr (.inr (5, i)), .inl v] S Q := by
  refine ct_of (xmok_all (by decide)) rfl ?_
  refine V_go (pc := 0) pk_186 [] 120 ?_
  refine And.intro (fun q => absurd (show (4 : Int32) ≤ 0 from q) (by decide)) (fun _ => ?_)
  refine And.intro (vin (x := 0) (n := 4) (m := 3) rfl (by decide) (by decide)) ?_
  refine And.intro (fun q => absurd (show (4 : Int32) ≤ (0 + 1) from q) (by decide)) (fun _ => ?_)
  refine And.intro (vin (x := (0 + 1)) (n := 4) (m := 3) rfl (by decide) (by decide)) ?_
  refine And.intro (fun q => absurd (show (4 : Int32) ≤ ((0 + 1) + 1) from q) (by decide)) (fun _ => ?_)
  refine And.intro (vin (x := ((0 + 1) + 1)) (n := 4) (m := 3) rfl (by decide) (by decide)) ?_
  refine And.intro (fun q => absurd (show (4 : Int32) ≤ (((0 + 1) + 1) + 1) from q) (by decide)) (fun _ => ?_)
  refine And.intro (vin (x := (((0 + 1) + 1) + 1)) (n := 4) (m := 3) rfl (by decide) (by decide)) ?_
  refine And.intro (fun _ => ?_) (fun q => absurd (show (4 : Int32) ≤ ((((0 + 1) + 1) + 1) + 1) by decide) q)
  exact h
theorem ct_fill_13 {d i : Nat} {v : Int32} {S : xS} {Q : xQ} (h : Q none (xupd (xupd (xupd (xupd (S) 13 i 0 v) 13 i 1 v) 13 i 2 v) 13 i 3 v)) : CT d 0 0 m_Arrays_fill [.inr (.inr (13, i)), .inl v] S Q := by
  refine ct_of (xmok_all (by decide)) rfl ?_
  refine V_go (pc := 0) pk_186 [] 120 ?_
  refine And.intro (fun q => absurd (show (4 : Int32) ≤ 0 from q) (by decide)) (fun _ => ?_)
  refine And.intro (vin (x := 0) (n := 4) (m := 3) rfl (by decide) (by decide)) ?_
  refine And.intro (fun q => absurd (show (4 : Int32) ≤ (0 + 1) from q) (by decide)) (fun _ => ?_)
  refine And.intro (vin (x := (0 + 1)) (n := 4) (m := 3) rfl (by decide) (by decide)) ?_
  refine And.intro (fun q => absurd (show (4 : Int32) ≤ ((0 + 1) + 1) from q) (by decide)) (fun _ => ?_)
  refine And.intro (vin (x := ((0 + 1) + 1)) (n := 4) (m := 3) rfl (by decide) (by decide)) ?_
  refine And.intro (fun q => absurd (show (4 : Int32) ≤ (((0 + 1) + 1) + 1) from q) (by decide)) (fun _ => ?_)
  refine And.intro (vin (x := (((0 + 1) + 1) + 1)) (n := 4) (m := 3) rfl (by decide) (by decide)) ?_
  refine And.intro (fun _ => ?_) (fun q => absurd (show (4 : Int32) ≤ ((((0 + 1) + 1) + 1) + 1) by decide) q)
  exact h
theorem ct_fill_9 {d i : Nat} {v : Int32} {S : xS} {Q : xQ} (h : Q none (xupd (xupd (xupd (xupd (xupd (xupd (S) 9 i 0 v) 9 i 1 v) 9 i 2 v) 9 i 3 v) 9 i 4 v) 9 i 5 v)) : CT d 0 0 m_Arrays_fill [.inr (.inr (9, i)), .inl v] S Q := by
  refine ct_of (xmok_all (by decide)) rfl ?_
  refine V_go (pc := 0) pk_186 [] 120 ?_
  refine And.intro (fun q => absurd (show (6 : Int32) ≤ 0 from q) (by decide)) (fun _ => ?_)
  refine And.intro (vin (x := 0) (n := 6) (m := 5) rfl (by decide) (by decide)) ?_
  refine And.intro (fun q => absurd (show (6 : Int32) ≤ (0 + 1) from q) (by decide)) (fun _ => ?_)
  refine And.intro (vin (x := (0 + 1)) (n := 6) (m := 5) rfl (by decide) (by decide)) ?_
  refine And.intro (fun q => absurd (show (6 : Int32) ≤ ((0 + 1) + 1) from q) (by decide)) (fun _ => ?_)
  refine And.intro (vin (x := ((0 + 1) + 1)) (n := 6) (m := 5) rfl (by decide) (by decide)) ?_
  refine And.intro (fun q => absurd (show (6 : Int32) ≤ (((0 + 1) + 1) + 1) from q) (by decide)) (fun _ => ?_)
  refine And.intro (vin (x := (((0 + 1) + 1) + 1)) (n := 6) (m := 5) rfl (by decide) (by decide)) ?_
  refine And.intro (fun q => absurd (show (6 : Int32) ≤ ((((0 + 1) + 1) + 1) + 1) from q) (by decide)) (fun _ => ?_)
  refine And.intro (vin (x := ((((0 + 1) + 1) + 1) + 1)) (n := 6) (m := 5) rfl (by decide) (by decide)) ?_
  refine And.intro (fun q => absurd (show (6 : Int32) ≤ (((((0 + 1) + 1) + 1) + 1) + 1) from q) (by decide)) (fun _ => ?_)
  refine And.intro (vin (x := (((((0 + 1) + 1) + 1) + 1) + 1)) (n := 6) (m := 5) rfl (by decide) (by decide)) ?_
  refine And.intro (fun _ => ?_) (fun q => absurd (show (6 : Int32) ≤ ((((((0 + 1) + 1) + 1) + 1) + 1) + 1) by decide) q)
  exact h
theorem IA.wants {S : xS} {n : Nat} (h : IA n S) {P G : Nat} {b f : Int32} (hG : G < 4) (hb : 1 ≤ b ∧ b ≤ 99) (hf : 0 ≤ f ∧ f ≤ 9) : IA n (xupd (xupd (xupd (xupd S 5 P G b) 6 P G f) 39 0 (4 * P + G) b) 40 0 (4 * P + G) f) := by
  obtain ⟨h1, h2, h3, h4, h5⟩ := h
  refine ⟨h1, h2, h3, fun p g hp hg => ?_, h5⟩
  obtain ⟨⟨q1, q2, q3⟩, q4, q5, q6⟩ := h4 p g hp hg
  have hb0 : (0 : Int32) ≤ b := Int32.le_trans (by decide) hb.1
  have e : (4 * p + g = 4 * P + G) ↔ (p = P ∧ g = G) := by omega
  simp only [xu, true_and, false_and, reduceIte, e]
  by_cases c : p = P ∧ g = G
  · simp only [if_pos c]
    exact ⟨⟨rfl, rfl, q3⟩, ⟨hb0, hb.2⟩, hf, q6⟩
  · simp only [if_neg c]
    exact ⟨⟨q1, q2, q3⟩, q4, q5, q6⟩
theorem pPrice_off {S : xS} {P i : Nat} {g : Int32} {k j : Nat} {x : Int32} (h5 : Nat.beq 5 k = false) (h6 : Nat.beq 6 k = false) (h7 : Nat.beq 7 k = false) : pPrice (xupd S k i j x) P g = pPrice S P g := by
  unfold pPrice
  rw [xu_k h5, xu_k h6, xu_k h7]
theorem mm_wants_bad {S : xS} {n : Nat} (h : IA n S) {p g b f : Int32} (hb : ¬ (0 ≤ p ∧ p ≤ S.1 1 0 2 - 1) ∨ ¬ (0 ≤ g ∧ g ≤ 3) ∨ ¬ (1 ≤ b ∧ b ≤ 99) ∨ ¬ (0 ≤ f ∧ f ≤ 9)) {Q : xQ} (hq : Q (some (.inl (-2))) S) : CT 2 0 0 m_M_wants [M0, .inl p, .inl g, .inl b, .inl f] S Q := by
  refine ct_of (xmok_all (by decide)) rfl ?_
  refine V_go (pc := 0) pk_120 [] 60 ?_
  refine ct_M_isPort (fun c1 c2 => ?_) (fun c => ?_)
  · (repeat' first | (refine And.intro (fun q => absurd q (by decide)) (fun _ => ?_)) | (refine And.intro (fun _ => ?_) (fun q => absurd q (by decide))) | fail)
    refine ct_M_isGood (fun c3 c4 => ?_) (fun c => ?_)
    · (repeat' first | (refine And.intro (fun q => absurd q (by decide)) (fun _ => ?_)) | (refine And.intro (fun _ => ?_) (fun q => absurd q (by decide))) | fail)
      refine ct_M_isIn32 (a := 1) (b := 99) rfl rfl (fun c5 c6 => ?_) (fun c => ?_)
      · (repeat' first | (refine And.intro (fun q => absurd q (by decide)) (fun _ => ?_)) | (refine And.intro (fun _ => ?_) (fun q => absurd q (by decide))) | fail)
        refine ct_M_isIn32 (a := 0) (b := 9) rfl rfl (fun c7 c8 => ?_) (fun c => ?_)
        · rcases hb with q | q | q | q
          · exact absurd ⟨c1, (isP h).1.mpr c2⟩ q
          · exact absurd ⟨c3, c4⟩ q
          · exact absurd ⟨c5, c6⟩ q
          · exact absurd ⟨c7, c8⟩ q
        · (repeat' first | (refine And.intro (fun q => absurd q (by decide)) (fun _ => ?_)) | (refine And.intro (fun _ => ?_) (fun q => absurd q (by decide))) | fail)
          exact hq
      · (repeat' first | (refine And.intro (fun q => absurd q (by decide)) (fun _ => ?_)) | (refine And.intro (fun _ => ?_) (fun q => absurd q (by decide))) | fail)
        exact hq
    · (repeat' first | (refine And.intro (fun q => absurd q (by decide)) (fun _ => ?_)) | (refine And.intro (fun _ => ?_) (fun q => absurd q (by decide))) | fail)
      exact hq
  · (repeat' first | (refine And.intro (fun q => absurd q (by decide)) (fun _ => ?_)) | (refine And.intro (fun _ => ?_) (fun q => absurd q (by decide))) | fail)
    exact hq
abbrev fWants (k _j : Nat) : Bool := Nat.beq k 5 || Nat.beq k 6 || Nat.beq k 39 || Nat.beq k 40
theorem cm_wants {S : xS} {n : Nat} (h : IA n S) {p g b f : Int32} : CT 2 0 0 m_C_wants [C0, .inl p, .inl g, .inl b, .inl f] S (fun r S1 => CT 2 0 0 m_M_wants [M0, .inl p, .inl g, .inl b, .inl f] S1 (fun r' S2 => r' = r ∧ IA n S2 ∧ Fr fWants S S2)) := by
  refine ct_of (xmok_all (by decide)) rfl ?_
  refine V_go (pc := 0) pk_72 [] 80 ?_
  refine ct_Sea_has (fun c1 c2 => ?_) (fun c => ?_)
  · (repeat' first | (refine And.intro (fun q => absurd q (by decide)) (fun _ => ?_)) | (refine And.intro (fun _ => ?_) (fun q => absurd q (by decide))) | fail)
    refine ct_C_isGood (fun c3 c4 => ?_) (fun c => ?_)
    · (repeat' first | (refine And.intro (fun q => absurd q (by decide)) (fun _ => ?_)) | (refine And.intro (fun _ => ?_) (fun q => absurd q (by decide))) | fail)
      refine ct_within (fun c5 c6 => ?_) (fun c => ?_)
      · (repeat' first | (refine And.intro (fun q => absurd q (by decide)) (fun _ => ?_)) | (refine And.intro (fun _ => ?_) (fun q => absurd q (by decide))) | fail)
        refine ct_within (fun c7 c8 => ?_) (fun c => ?_)
        · (repeat' first | (refine And.intro (fun q => absurd q (by decide)) (fun _ => ?_)) | (refine And.intro (fun _ => ?_) (fun q => absurd q (by decide))) | fail)
          have hp5 := (isP h).2 c2
          obtain ⟨e, e24, e1, e2⟩ := at4 c1 hp5 c3 c4
          refine And.intro (vin (m := 5) rfl c1 hp5) ?_
          refine And.intro (vin (m := 3) rfl c3 c4) ?_
          refine And.intro (vin (m := 3) rfl c3 c4) ?_
          refine ct_Port_priceOf (vin (m := 3) rfl c3 c4) ?_
          refine ct_of (xmok_all (by decide)) rfl ?_
          refine V_go (pc := 0) pk_120 [] 80 ?_
          refine ct_M_isPort (fun _ _ => ?_) (fun c => absurd ⟨c1, (isP h).1.mp c2⟩ c)
          (repeat' first | (refine And.intro (fun q => absurd q (by decide)) (fun _ => ?_)) | (refine And.intro (fun _ => ?_) (fun q => absurd q (by decide))) | fail)
          refine ct_M_isGood (fun _ _ => ?_) (fun c => absurd ⟨c3, c4⟩ c)
          (repeat' first | (refine And.intro (fun q => absurd q (by decide)) (fun _ => ?_)) | (refine And.intro (fun _ => ?_) (fun q => absurd q (by decide))) | fail)
          refine ct_M_isIn32 (a := 1) (b := 99) rfl rfl (fun _ _ => ?_) (fun c => absurd ⟨c5, c6⟩ c)
          (repeat' first | (refine And.intro (fun q => absurd q (by decide)) (fun _ => ?_)) | (refine And.intro (fun _ => ?_) (fun q => absurd q (by decide))) | fail)
          refine ct_M_isIn32 (a := 0) (b := 9) rfl rfl (fun _ _ => ?_) (fun c => absurd ⟨c7, c8⟩ c)
          (repeat' first | (refine And.intro (fun q => absurd q (by decide)) (fun _ => ?_)) | (refine And.intro (fun _ => ?_) (fun q => absurd q (by decide))) | fail)
          refine And.intro e24 ?_
          refine And.intro e24 ?_
          refine ct_M_priceOf e24 ?_
          rw [e]
          have h' := h.wants (P := p.toNatClampNeg) (G := g.toNatClampNeg) e2 ⟨c5, c6⟩ ⟨c7, c8⟩
          refine ⟨?_, h', (((Fr.rf.up rfl).up rfl).up rfl).up rfl⟩
          rw [pm_price h' c1 hp5 c3 c4, pPrice_off rfl rfl rfl, pPrice_off rfl rfl rfl]
        · (repeat' first | (refine And.intro (fun q => absurd q (by decide)) (fun _ => ?_)) | (refine And.intro (fun _ => ?_) (fun q => absurd q (by decide))) | fail)
          exact mm_wants_bad h (Or.inr (Or.inr (Or.inr c))) ⟨rfl, h, Fr.rf⟩
      · (repeat' first | (refine And.intro (fun q => absurd q (by decide)) (fun _ => ?_)) | (refine And.intro (fun _ => ?_) (fun q => absurd q (by decide))) | fail)
        exact mm_wants_bad h (Or.inr (Or.inr (Or.inl c))) ⟨rfl, h, Fr.rf⟩
    · (repeat' first | (refine And.intro (fun q => absurd q (by decide)) (fun _ => ?_)) | (refine And.intro (fun _ => ?_) (fun q => absurd q (by decide))) | fail)
      exact mm_wants_bad h (Or.inr (Or.inl c)) ⟨rfl, h, Fr.rf⟩
  · (repeat' first | (refine And.intro (fun q => absurd q (by decide)) (fun _ => ?_)) | (refine And.intro (fun _ => ?_) (fun q => absurd q (by decide))) | fail)
    exact mm_wants_bad h (Or.inl c) ⟨rfl, h, Fr.rf⟩
end
section
theorem mm_port_bad {S : xS} {x y : Int32} (hb : ¬ (0 ≤ x ∧ x ≤ 99) ∨ ¬ (0 ≤ y ∧ y ≤ 99)) {Q : xQ} (hq : Q (some (.inl (-2))) S) : CT 2 0 0 m_M_port [M0, .inl x, .inl y] S Q := by
  refine ct_of (xmok_all (by decide)) rfl ?_
  refine V_go (pc := 0) pk_118 [] 60 ?_
  refine ct_M_isIn32 (a := 0) (b := 99) rfl rfl (fun c1 c2 => ?_) (fun c => ?_)
  · (repeat' first | (refine And.intro (fun q => absurd q (by decide)) (fun _ => ?_)) | (refine And.intro (fun _ => ?_) (fun q => absurd q (by decide))) | fail)
    refine ct_M_isIn32 (a := 0) (b := 99) rfl rfl (fun c3 c4 => ?_) (fun c => ?_)
    · exact absurd ⟨c3, c4⟩ (hb.resolve_left (fun q => q ⟨c1, c2⟩))
    · (repeat' first | (refine And.intro (fun q => absurd q (by decide)) (fun _ => ?_)) | (refine And.intro (fun _ => ?_) (fun q => absurd q (by decide))) | fail)
      exact hq
  · (repeat' first | (refine And.intro (fun q => absurd q (by decide)) (fun _ => ?_)) | (refine And.intro (fun _ => ?_) (fun q => absurd q (by decide))) | fail)
    exact hq
/-- the class's store behind found(x, y) -/
def sFound (S : xS) (x y : Int32) : xS := xupd (xupd (xupd (xupd (xupd (xupd (xupd S 4 (S.1 1 0 2).toNatClampNeg 0 x) 4 (S.1 1 0 2).toNatClampNeg 1 y) 5 (S.1 1 0 2).toNatClampNeg 0 10) 5 (S.1 1 0 2).toNatClampNeg 1 10) 5 (S.1 1 0 2).toNatClampNeg 2 10) 5 (S.1 1 0 2).toNatClampNeg 3 10) 1 0 2 (S.1 1 0 2 + 1)
theorem ct_Sea_found {d : Nat} {x y : Int32} {S : xS} {Q : xQ} (hs : vp_in (S.1 1 0 2) 6) (h : Q (some (.inl (S.1 1 0 2 + 1 - 1))) (sFound S x y)) : CT (d + 1) 0 0 m_Sea_found [.inr (.inr (1, 0)), .inl x, .inl y] S Q := by
  refine ct_of (xmok_all (by decide)) rfl ?_
  refine V_go (pc := 0) pk_42 [] 60 ?_
  refine And.intro hs ?_
  refine ct_fill_5 ?_
  show Q (some (.inl _)) _
  simp (decide := true) only [xu, true_and, false_and, and_true, and_false, if_true, if_false]
  exact h
/-- the model's store behind port(x, y) -/
def sMport (S : xS) (x y : Int32) : xS := xupd (xupd (xupd (xupd (xupd (xupd (xupd S 37 0 (S.1 36 0 1).toNatClampNeg x) 38 0 (S.1 36 0 1).toNatClampNeg y) 39 0 (4 * S.1 36 0 1 + 0).toNatClampNeg 10) 39 0 (4 * S.1 36 0 1 + (0 + 1)).toNatClampNeg 10) 39 0 (4 * S.1 36 0 1 + (0 + 1 + 1)).toNatClampNeg 10) 39 0 (4 * S.1 36 0 1 + (0 + 1 + 1 + 1)).toNatClampNeg 10) 36 0 1 (S.1 36 0 1 + 1)
theorem ct_M_port_ok {d : Nat} {x y : Int32} {S : xS} {Q : xQ} (c1 : 0 ≤ x) (c2 : x ≤ 99) (c3 : 0 ≤ y) (c4 : y ≤ 99) (h0 : 0 ≤ S.1 36 0 1) (h5 : S.1 36 0 1 ≤ 5) (h : Q (some (.inl (S.1 36 0 1 + 1 - 1))) (sMport S x y)) : CT (d + 1) 0 0 m_M_port [M0, .inl x, .inl y] S Q := by
  have hv : vp_in (S.1 36 0 1) 6 := vin (m := 5) rfl h0 h5
  have hn : ¬ S.1 36 0 1 = 6 := fun q => by rw [q] at h5; exact absurd h5 (by decide)
  refine ct_of (xmok_all (by decide)) rfl ?_
  refine V_go (pc := 0) pk_118 [] 120 ?_
  refine ct_M_isIn32 (a := 0) (b := 99) rfl rfl (fun _ _ => ?_) (fun c => absurd ⟨c1, c2⟩ c)
  (repeat' first | (refine And.intro (fun q => absurd q (by decide)) (fun _ => ?_)) | (refine And.intro (fun _ => ?_) (fun q => absurd q (by decide))) | fail)
  refine ct_M_isIn32 (a := 0) (b := 99) rfl rfl (fun _ _ => ?_) (fun c => absurd ⟨c3, c4⟩ c)
  (repeat' first | (refine And.intro (fun q => absurd q (by decide)) (fun _ => ?_)) | (refine And.intro (fun _ => ?_) (fun q => absurd q (by decide))) | fail)
  refine And.intro (fun _ => ?_) (fun q => absurd q hn)
  refine And.intro hv ?_
  refine And.intro hv ?_
  (repeat' first | (refine And.intro (fun q => absurd q (by decide)) (fun _ => ?_)) | (refine And.intro (fun _ => ?_) (fun q => absurd q (by decide))) | fail)
  refine And.intro (by simp (decide := true) only [xu, true_and, false_and, and_true, and_false, if_true, if_false]; exact (at4 h0 h5 (by decide) (by decide)).2.1) ?_
  (repeat' first | (refine And.intro (fun q => absurd q (by decide)) (fun _ => ?_)) | (refine And.intro (fun _ => ?_) (fun q => absurd q (by decide))) | fail)
  refine And.intro (by simp (decide := true) only [xu, true_and, false_and, and_true, and_false, if_true, if_false]; exact (at4 h0 h5 (by decide) (by decide)).2.1) ?_
  (repeat' first | (refine And.intro (fun q => absurd q (by decide)) (fun _ => ?_)) | (refine And.intro (fun _ => ?_) (fun q => absurd q (by decide))) | fail)
  refine And.intro (by simp (decide := true) only [xu, true_and, false_and, and_true, and_false, if_true, if_false]; exact (at4 h0 h5 (by decide) (by decide)).2.1) ?_
  (repeat' first | (refine And.intro (fun q => absurd q (by decide)) (fun _ => ?_)) | (refine And.intro (fun _ => ?_) (fun q => absurd q (by decide))) | fail)
  refine And.intro (by simp (decide := true) only [xu, true_and, false_and, and_true, and_false, if_true, if_false]; exact (at4 h0 h5 (by decide) (by decide)).2.1) ?_
  (repeat' first | (refine And.intro (fun q => absurd q (by decide)) (fun _ => ?_)) | (refine And.intro (fun _ => ?_) (fun q => absurd q (by decide))) | fail)
  show Q (some (.inl _)) _
  simp (decide := true) only [xu, true_and, false_and, and_true, and_false, if_true, if_false]
  exact h
theorem IA.port {S : xS} {n : Nat} (h : IA n S) {x y : Int32} (hs5 : S.1 1 0 2 ≤ 5) (hx : 0 ≤ x ∧ x ≤ 99) (hy : 0 ≤ y ∧ y ≤ 99) : IA n (sMport (sFound S x y) x y) := by
  have h0 := h.1.1
  have e36 : (sFound S x y).1 36 0 1 = S.1 1 0 2 := by unfold sFound; simp (decide := true) only [xu, true_and, false_and, and_true, and_false, if_true, if_false]; exact h.2.1
  obtain ⟨P, hP⟩ : ∃ P : Nat, P = (S.1 1 0 2).toNatClampNeg := ⟨_, rfl⟩
  have i0 : (4 * (sFound S x y).1 36 0 1 + 0).toNatClampNeg = 4 * P + 0 := by rw [e36, hP]; exact (at4 h0 hs5 (by decide) (by decide)).1
  have i1 : (4 * (sFound S x y).1 36 0 1 + (0 + 1)).toNatClampNeg = 4 * P + 1 := by rw [e36, hP]; exact (at4 h0 hs5 (by decide) (by decide)).1
  have i2 : (4 * (sFound S x y).1 36 0 1 + (0 + 1 + 1)).toNatClampNeg = 4 * P + 2 := by rw [e36, hP]; exact (at4 h0 hs5 (by decide) (by decide)).1
  have i3 : (4 * (sFound S x y).1 36 0 1 + (0 + 1 + 1 + 1)).toNatClampNeg = 4 * P + 3 := by rw [e36, hP]; exact (at4 h0 hs5 (by decide) (by decide)).1
  have b1 : 0 ≤ S.1 1 0 2 + 1 ∧ S.1 1 0 2 + 1 ≤ 6 := by
    have a1 := leI h0; have a2 := leI hs5
    rw [show (0 : Int32).toInt = 0 from rfl] at a1
    rw [show (5 : Int32).toInt = 5 from rfl] at a2
    have e : (S.1 1 0 2 + 1).toInt = (S.1 1 0 2).toInt + 1 := adI (by rw [show (1 : Int32).toInt = 1 from rfl]; omega) (by rw [show (1 : Int32).toInt = 1 from rfl]; omega)
    exact ⟨Int32.le_iff_toInt_le.mpr (by rw [e, show (0 : Int32).toInt = 0 from rfl]; omega), Int32.le_iff_toInt_le.mpr (by rw [e, show (6 : Int32).toInt = 6 from rfl]; omega)⟩
  obtain ⟨-, -, h3, h4, h5⟩ := h
  unfold sMport
  rw [i0, i1, i2, i3, e36, ← hP]
  unfold sFound
  rw [← hP]
  refine ⟨?_, ?_, fun p hp => ?_, fun p g hp hg => ?_, fun m hm => ?_⟩
  · simp (decide := true) only [xu, true_and, false_and, and_true, and_false, if_true, if_false]
    exact b1
  · simp (decide := true) only [xu, true_and, false_and, and_true, and_false, if_true, if_false]
  · obtain ⟨q1, q2, q3⟩ := h3 p hp
    simp (decide := true) only [xu, true_and, false_and, and_true, and_false, if_true, if_false]
    by_cases c : p = P
    · simp only [if_pos c]
      exact ⟨trivial, trivial, hx, hy⟩
    · simp only [if_neg c]
      exact ⟨q1, q2, q3⟩
  · obtain ⟨⟨q1, q2, q3⟩, q4, q5, q6⟩ := h4 p g hp hg
    have hc : ∀ j, j < 4 → ((4 * p + g = 4 * P + j) ↔ (p = P ∧ g = j)) := fun j hj => by omega
    simp (decide := true) only [xu, true_and, false_and, and_true, and_false, if_true, if_false]
    simp only [hc 0 (by omega), hc 1 (by omega), hc 2 (by omega), hc 3 (by omega)]
    by_cases c : p = P
    · subst c
      simp only [true_and]
      have hg4 : g = 0 ∨ g = 1 ∨ g = 2 ∨ g = 3 := by omega
      rcases hg4 with rfl | rfl | rfl | rfl
      · exact ⟨⟨rfl, q2, q3⟩, ⟨show (0 : Int32) ≤ 10 by decide, show (10 : Int32) ≤ 99 by decide⟩, q5, q6⟩
      · exact ⟨⟨rfl, q2, q3⟩, ⟨show (0 : Int32) ≤ 10 by decide, show (10 : Int32) ≤ 99 by decide⟩, q5, q6⟩
      · exact ⟨⟨rfl, q2, q3⟩, ⟨show (0 : Int32) ≤ 10 by decide, show (10 : Int32) ≤ 99 by decide⟩, q5, q6⟩
      · exact ⟨⟨rfl, q2, q3⟩, ⟨show (0 : Int32) ≤ 10 by decide, show (10 : Int32) ≤ 99 by decide⟩, q5, q6⟩
    · simp only [c, false_and, if_false]
      exact ⟨⟨q1, q2, q3⟩, q4, q5, q6⟩
  · simp (decide := true) only [xu, true_and, false_and, and_true, and_false, if_true, if_false]
    exact h5 m hm
abbrev fPort (k j : Nat) : Bool := Nat.beq k 4 || Nat.beq k 5 || Nat.beq k 37 || Nat.beq k 38 || Nat.beq k 39 || (Nat.beq k 1 && Nat.beq j 2) || (Nat.beq k 36 && Nat.beq j 1)
theorem cm_port {S : xS} {n : Nat} (h : IA n S) {x y : Int32} : CT 3 0 0 m_C_port [C0, .inl x, .inl y] S (fun r S1 => CT 2 0 0 m_M_port [M0, .inl x, .inl y] S1 (fun r' S2 => r' = r ∧ IA n S2 ∧ Fr fPort S S2)) := by
  refine ct_of (xmok_all (by decide)) rfl ?_
  refine V_go (pc := 0) pk_71 [] 60 ?_
  refine ct_within (fun c1 c2 => ?_) (fun c => ?_)
  · (repeat' first | (refine And.intro (fun q => absurd q (by decide)) (fun _ => ?_)) | (refine And.intro (fun _ => ?_) (fun q => absurd q (by decide))) | fail)
    refine ct_within (fun c3 c4 => ?_) (fun c => ?_)
    · (repeat' first | (refine And.intro (fun q => absurd q (by decide)) (fun _ => ?_)) | (refine And.intro (fun _ => ?_) (fun q => absurd q (by decide))) | fail)
      have hs := h.1
      have h36 := h.2.1
      refine And.intro (fun c5 => ?_) (fun c5 => ?_)
      · have hs5 : S.1 1 0 2 ≤ 5 := by
          have := ltI c5
          rw [show (6 : Int32).toInt = 6 from rfl] at this
          exact Int32.le_iff_toInt_le.mpr (by rw [show (5 : Int32).toInt = 5 from rfl]; omega)
        refine ct_Sea_found (vin (m := 5) rfl hs.1 hs5) ?_
        have e36 : (sFound S x y).1 36 0 1 = S.1 1 0 2 := by unfold sFound; simp (decide := true) only [xu, true_and, false_and, and_true, and_false, if_true, if_false]; exact h36
        refine ct_M_port_ok c1 c2 c3 c4 (by rw [e36]; exact hs.1) (by rw [e36]; exact hs5) ?_
        refine ⟨by rw [e36], ?_, ?_⟩
        · exact h.port hs5 ⟨c1, c2⟩ ⟨c3, c4⟩
        · unfold sMport sFound
          exact (((((((((((((Fr.rf.up rfl).up rfl).up rfl).up rfl).up rfl).up rfl).up rfl).up rfl).up rfl).up rfl).up rfl).up rfl).up rfl).up rfl
      · refine ct_of (xmok_all (by decide)) rfl ?_
        refine V_go (pc := 0) pk_118 [] 100 ?_
        refine ct_M_isIn32 (a := 0) (b := 99) rfl rfl (fun _ _ => ?_) (fun c => absurd ⟨c1, c2⟩ c)
        (repeat' first | (refine And.intro (fun q => absurd q (by decide)) (fun _ => ?_)) | (refine And.intro (fun _ => ?_) (fun q => absurd q (by decide))) | fail)
        refine ct_M_isIn32 (a := 0) (b := 99) rfl rfl (fun _ _ => ?_) (fun c => absurd ⟨c3, c4⟩ c)
        (repeat' first | (refine And.intro (fun q => absurd q (by decide)) (fun _ => ?_)) | (refine And.intro (fun _ => ?_) (fun q => absurd q (by decide))) | fail)
        have e6 : S.1 36 0 1 = 6 := by rw [h36]; exact Int32.le_antisymm hs.2 (Int32.not_lt.mp c5)
        refine And.intro (fun q => absurd e6 q) (fun _ => ?_)
        exact ⟨rfl, h, Fr.rf⟩
    · (repeat' first | (refine And.intro (fun q => absurd q (by decide)) (fun _ => ?_)) | (refine And.intro (fun _ => ?_) (fun q => absurd q (by decide))) | fail)
      exact mm_port_bad (Or.inr c) ⟨rfl, h, Fr.rf⟩
  · (repeat' first | (refine And.intro (fun q => absurd q (by decide)) (fun _ => ?_)) | (refine And.intro (fun _ => ?_) (fun q => absurd q (by decide))) | fail)
    exact mm_port_bad (Or.inl c) ⟨rfl, h, Fr.rf⟩
end
