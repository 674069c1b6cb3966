section
-- ===== PART A: goes FIRST, ahead of the names: the tables' words, and 'selects' of the private methods out of them =====
/-- a private method of a class that the tables say can be made, by its rows of tables_1 -/
def lw_okq (q : MethodName × Nat) : Prop := (q.1.cls ≠ "java/lang/invoke/MethodHandle" ∧ q.1.cls ≠ "java/lang/invoke/VarHandle") ∧ Cond.instantiable q.1.cls q.2 ∈ tables_1 ∧ Cond.privateMethod q.1 ∈ tables_1 ∧ Cond.instanceMethod q.1 ∈ tables_1
theorem lw_p0 : lw_okq (⟨"java/lang/Throwable", "fillInStackTrace", "(I)Ljava/lang/Throwable;"⟩, 6) := ⟨⟨by decide +kernel, by decide +kernel⟩, List.mem_of_getElem? (i := 283) (by decide +kernel), List.mem_of_getElem? (i := 281) (by decide +kernel), List.mem_of_getElem? (i := 282) (by decide +kernel)⟩
theorem lw_p1 : lw_okq (⟨"RallyCard", "needItem", "(I)V"⟩, 2) := ⟨⟨by decide +kernel, by decide +kernel⟩, List.mem_of_getElem? (i := 20) (by decide +kernel), List.mem_of_getElem? (i := 365) (by decide +kernel), List.mem_of_getElem? (i := 366) (by decide +kernel)⟩
theorem lw_p2 : lw_okq (⟨"RallyCard", "needKind", "(II)V"⟩, 2) := ⟨⟨by decide +kernel, by decide +kernel⟩, List.mem_of_getElem? (i := 20) (by decide +kernel), List.mem_of_getElem? (i := 386) (by decide +kernel), List.mem_of_getElem? (i := 387) (by decide +kernel)⟩
theorem lw_p3 : lw_okq (⟨"RallyCard$Ranks", "isAhead", "(II)Z"⟩, 6) := ⟨⟨by decide +kernel, by decide +kernel⟩, List.mem_of_getElem? (i := 172) (by decide +kernel), List.mem_of_getElem? (i := 451) (by decide +kernel), List.mem_of_getElem? (i := 452) (by decide +kernel)⟩
theorem lw_p4 : lw_okq (⟨"RallyCard$Rally", "addByNumbers", "(I)V"⟩, 6) := ⟨⟨by decide +kernel, by decide +kernel⟩, List.mem_of_getElem? (i := 170) (by decide +kernel), List.mem_of_getElem? (i := 463) (by decide +kernel), List.mem_of_getElem? (i := 464) (by decide +kernel)⟩
theorem lw_p5 : lw_okq (⟨"RallyCard$Rally", "addByRank", "(II)V"⟩, 6) := ⟨⟨by decide +kernel, by decide +kernel⟩, List.mem_of_getElem? (i := 170) (by decide +kernel), List.mem_of_getElem? (i := 475) (by decide +kernel), List.mem_of_getElem? (i := 476) (by decide +kernel)⟩
theorem lw_p6 : lw_okq (⟨"RallyCard$Rally", "addReturning", "(I)V"⟩, 6) := ⟨⟨by decide +kernel, by decide +kernel⟩, List.mem_of_getElem? (i := 170) (by decide +kernel), List.mem_of_getElem? (i := 483) (by decide +kernel), List.mem_of_getElem? (i := 484) (by decide +kernel)⟩
theorem lw_p7 : lw_okq (⟨"RallyCard", "needControl", "(I)V"⟩, 2) := ⟨⟨by decide +kernel, by decide +kernel⟩, List.mem_of_getElem? (i := 20) (by decide +kernel), List.mem_of_getElem? (i := 522) (by decide +kernel), List.mem_of_getElem? (i := 523) (by decide +kernel)⟩
theorem lw_p8 : lw_okq (⟨"RallyCard$Cards", "penaltyAt", "(II)I"⟩, 8) := ⟨⟨by decide +kernel, by decide +kernel⟩, List.mem_of_getElem? (i := 80) (by decide +kernel), List.mem_of_getElem? (i := 569) (by decide +kernel), List.mem_of_getElem? (i := 570) (by decide +kernel)⟩
theorem lw_p9 : lw_okq (⟨"RallyCard", "needStart", "(II)V"⟩, 2) := ⟨⟨by decide +kernel, by decide +kernel⟩, List.mem_of_getElem? (i := 20) (by decide +kernel), List.mem_of_getElem? (i := 599) (by decide +kernel), List.mem_of_getElem? (i := 600) (by decide +kernel)⟩
theorem lw_p10 : lw_okq (⟨"RallyCard$Stages", "reckon", "(I)V"⟩, 10) := ⟨⟨by decide +kernel, by decide +kernel⟩, List.mem_of_getElem? (i := 113) (by decide +kernel), List.mem_of_getElem? (i := 615) (by decide +kernel), List.mem_of_getElem? (i := 616) (by decide +kernel)⟩
theorem lw_p11 : lw_okq (⟨"RallyCard$Stages", "reckonOwnTimes", "(I)V"⟩, 10) := ⟨⟨by decide +kernel, by decide +kernel⟩, List.mem_of_getElem? (i := 113) (by decide +kernel), List.mem_of_getElem? (i := 619) (by decide +kernel), List.mem_of_getElem? (i := 620) (by decide +kernel)⟩
theorem lw_p12 : lw_okq (⟨"RallyCard$Stages", "beamLead", "(I)I"⟩, 10) := ⟨⟨by decide +kernel, by decide +kernel⟩, List.mem_of_getElem? (i := 113) (by decide +kernel), List.mem_of_getElem? (i := 623) (by decide +kernel), List.mem_of_getElem? (i := 624) (by decide +kernel)⟩
theorem lw_p13 : lw_okq (⟨"RallyCard$Stages", "reckonTime", "(II)I"⟩, 10) := ⟨⟨by decide +kernel, by decide +kernel⟩, List.mem_of_getElem? (i := 113) (by decide +kernel), List.mem_of_getElem? (i := 632) (by decide +kernel), List.mem_of_getElem? (i := 633) (by decide +kernel)⟩
theorem lw_p14 : lw_okq (⟨"RallyCard$Stages", "notionalTime", "(II)I"⟩, 10) := ⟨⟨by decide +kernel, by decide +kernel⟩, List.mem_of_getElem? (i := 113) (by decide +kernel), List.mem_of_getElem? (i := 636) (by decide +kernel), List.mem_of_getElem? (i := 637) (by decide +kernel)⟩
theorem lw_p15 : lw_okq (⟨"RallyCard$Stages", "freeTime", "(II)I"⟩, 10) := ⟨⟨by decide +kernel, by decide +kernel⟩, List.mem_of_getElem? (i := 113) (by decide +kernel), List.mem_of_getElem? (i := 643) (by decide +kernel), List.mem_of_getElem? (i := 644) (by decide +kernel)⟩
def lw_privs_1 : List (MethodName × Nat) := [(⟨"java/lang/Throwable", "fillInStackTrace", "(I)Ljava/lang/Throwable;"⟩, 6), (⟨"RallyCard", "needItem", "(I)V"⟩, 2), (⟨"RallyCard", "needKind", "(II)V"⟩, 2), (⟨"RallyCard$Ranks", "isAhead", "(II)Z"⟩, 6), (⟨"RallyCard$Rally", "addByNumbers", "(I)V"⟩, 6), (⟨"RallyCard$Rally", "addByRank", "(II)V"⟩, 6), (⟨"RallyCard$Rally", "addReturning", "(I)V"⟩, 6), (⟨"RallyCard", "needControl", "(I)V"⟩, 2), (⟨"RallyCard$Cards", "penaltyAt", "(II)I"⟩, 8), (⟨"RallyCard", "needStart", "(II)V"⟩, 2), (⟨"RallyCard$Stages", "reckon", "(I)V"⟩, 10), (⟨"RallyCard$Stages", "reckonOwnTimes", "(I)V"⟩, 10), (⟨"RallyCard$Stages", "beamLead", "(I)I"⟩, 10), (⟨"RallyCard$Stages", "reckonTime", "(II)I"⟩, 10), (⟨"RallyCard$Stages", "notionalTime", "(II)I"⟩, 10), (⟨"RallyCard$Stages", "freeTime", "(II)I"⟩, 10)]
theorem lw_r1 : ∀ q ∈ lw_privs_1, lw_okq q := List.forall_mem_cons.mpr ⟨lw_p0, List.forall_mem_cons.mpr ⟨lw_p1, List.forall_mem_cons.mpr ⟨lw_p2, List.forall_mem_cons.mpr ⟨lw_p3, List.forall_mem_cons.mpr ⟨lw_p4, List.forall_mem_cons.mpr ⟨lw_p5, List.forall_mem_cons.mpr ⟨lw_p6, List.forall_mem_cons.mpr ⟨lw_p7, List.forall_mem_cons.mpr ⟨lw_p8, List.forall_mem_cons.mpr ⟨lw_p9, List.forall_mem_cons.mpr ⟨lw_p10, List.forall_mem_cons.mpr ⟨lw_p11, List.forall_mem_cons.mpr ⟨lw_p12, List.forall_mem_cons.mpr ⟨lw_p13, List.forall_mem_cons.mpr ⟨lw_p14, List.forall_mem_cons.mpr ⟨lw_p15, fun _ h => absurd h List.not_mem_nil⟩⟩⟩⟩⟩⟩⟩⟩⟩⟩⟩⟩⟩⟩⟩⟩
theorem lw_p16 : lw_okq (⟨"RallyCard$Season", "countAhead", "(I)I"⟩, 2) := ⟨⟨by decide +kernel, by decide +kernel⟩, List.mem_of_getElem? (i := 28) (by decide +kernel), List.mem_of_getElem? (i := 815) (by decide +kernel), List.mem_of_getElem? (i := 816) (by decide +kernel)⟩
theorem lw_p17 : lw_okq (⟨"RallyCard$Season", "isAhead", "(II)Z"⟩, 2) := ⟨⟨by decide +kernel, by decide +kernel⟩, List.mem_of_getElem? (i := 28) (by decide +kernel), List.mem_of_getElem? (i := 819) (by decide +kernel), List.mem_of_getElem? (i := 820) (by decide +kernel)⟩
theorem lw_p18 : lw_okq (⟨"RallyCardModel", "begins", "()V"⟩, 24) := ⟨⟨by decide +kernel, by decide +kernel⟩, List.mem_of_getElem? (i := 824) (by decide +kernel), List.mem_of_getElem? (i := 830) (by decide +kernel), List.mem_of_getElem? (i := 831) (by decide +kernel)⟩
theorem lw_p19 : lw_okq (⟨"RallyCardModel", "canAdd", "(I)Z"⟩, 24) := ⟨⟨by decide +kernel, by decide +kernel⟩, List.mem_of_getElem? (i := 824) (by decide +kernel), List.mem_of_getElem? (i := 918) (by decide +kernel), List.mem_of_getElem? (i := 919) (by decide +kernel)⟩
theorem lw_p20 : lw_okq (⟨"RallyCardModel", "holds", "(I)Z"⟩, 24) := ⟨⟨by decide +kernel, by decide +kernel⟩, List.mem_of_getElem? (i := 824) (by decide +kernel), List.mem_of_getElem? (i := 922) (by decide +kernel), List.mem_of_getElem? (i := 923) (by decide +kernel)⟩
theorem lw_p21 : lw_okq (⟨"RallyCardModel", "isItem", "(I)Z"⟩, 24) := ⟨⟨by decide +kernel, by decide +kernel⟩, List.mem_of_getElem? (i := 824) (by decide +kernel), List.mem_of_getElem? (i := 930) (by decide +kernel), List.mem_of_getElem? (i := 931) (by decide +kernel)⟩
theorem lw_p22 : lw_okq (⟨"RallyCardModel", "areOpenAhead", "(I)Z"⟩, 24) := ⟨⟨by decide +kernel, by decide +kernel⟩, List.mem_of_getElem? (i := 824) (by decide +kernel), List.mem_of_getElem? (i := 934) (by decide +kernel), List.mem_of_getElem? (i := 935) (by decide +kernel)⟩
theorem lw_p23 : lw_okq (⟨"RallyCardModel", "laysRanks", "(Z)V"⟩, 24) := ⟨⟨by decide +kernel, by decide +kernel⟩, List.mem_of_getElem? (i := 824) (by decide +kernel), List.mem_of_getElem? (i := 938) (by decide +kernel), List.mem_of_getElem? (i := 939) (by decide +kernel)⟩
theorem lw_p24 : lw_okq (⟨"RallyCardModel", "totalOf", "(I)I"⟩, 24) := ⟨⟨by decide +kernel, by decide +kernel⟩, List.mem_of_getElem? (i := 824) (by decide +kernel), List.mem_of_getElem? (i := 942) (by decide +kernel), List.mem_of_getElem? (i := 943) (by decide +kernel)⟩
theorem lw_p25 : lw_okq (⟨"RallyCardModel", "timeOf", "(II)I"⟩, 24) := ⟨⟨by decide +kernel, by decide +kernel⟩, List.mem_of_getElem? (i := 824) (by decide +kernel), List.mem_of_getElem? (i := 946) (by decide +kernel), List.mem_of_getElem? (i := 947) (by decide +kernel)⟩
theorem lw_p26 : lw_okq (⟨"RallyCardModel", "notional", "(II)I"⟩, 24) := ⟨⟨by decide +kernel, by decide +kernel⟩, List.mem_of_getElem? (i := 824) (by decide +kernel), List.mem_of_getElem? (i := 950) (by decide +kernel), List.mem_of_getElem? (i := 951) (by decide +kernel)⟩
theorem lw_p27 : lw_okq (⟨"RallyCardModel", "legOf", "(I)I"⟩, 24) := ⟨⟨by decide +kernel, by decide +kernel⟩, List.mem_of_getElem? (i := 824) (by decide +kernel), List.mem_of_getElem? (i := 954) (by decide +kernel), List.mem_of_getElem? (i := 955) (by decide +kernel)⟩
theorem lw_p28 : lw_okq (⟨"RallyCardModel", "placeIn", "(II)I"⟩, 24) := ⟨⟨by decide +kernel, by decide +kernel⟩, List.mem_of_getElem? (i := 824) (by decide +kernel), List.mem_of_getElem? (i := 958) (by decide +kernel), List.mem_of_getElem? (i := 959) (by decide +kernel)⟩
theorem lw_p29 : lw_okq (⟨"RallyCardModel", "nextTime", "(III)I"⟩, 24) := ⟨⟨by decide +kernel, by decide +kernel⟩, List.mem_of_getElem? (i := 824) (by decide +kernel), List.mem_of_getElem? (i := 962) (by decide +kernel), List.mem_of_getElem? (i := 963) (by decide +kernel)⟩
theorem lw_p30 : lw_okq (⟨"RallyCardModel", "ownTime", "(II)I"⟩, 24) := ⟨⟨by decide +kernel, by decide +kernel⟩, List.mem_of_getElem? (i := 824) (by decide +kernel), List.mem_of_getElem? (i := 966) (by decide +kernel), List.mem_of_getElem? (i := 967) (by decide +kernel)⟩
theorem lw_p31 : lw_okq (⟨"RallyCardModel", "meanOf", "(I)I"⟩, 24) := ⟨⟨by decide +kernel, by decide +kernel⟩, List.mem_of_getElem? (i := 824) (by decide +kernel), List.mem_of_getElem? (i := 970) (by decide +kernel), List.mem_of_getElem? (i := 971) (by decide +kernel)⟩
def lw_privs_2 : List (MethodName × Nat) := [(⟨"RallyCard$Season", "countAhead", "(I)I"⟩, 2), (⟨"RallyCard$Season", "isAhead", "(II)Z"⟩, 2), (⟨"RallyCardModel", "begins", "()V"⟩, 24), (⟨"RallyCardModel", "canAdd", "(I)Z"⟩, 24), (⟨"RallyCardModel", "holds", "(I)Z"⟩, 24), (⟨"RallyCardModel", "isItem", "(I)Z"⟩, 24), (⟨"RallyCardModel", "areOpenAhead", "(I)Z"⟩, 24), (⟨"RallyCardModel", "laysRanks", "(Z)V"⟩, 24), (⟨"RallyCardModel", "totalOf", "(I)I"⟩, 24), (⟨"RallyCardModel", "timeOf", "(II)I"⟩, 24), (⟨"RallyCardModel", "notional", "(II)I"⟩, 24), (⟨"RallyCardModel", "legOf", "(I)I"⟩, 24), (⟨"RallyCardModel", "placeIn", "(II)I"⟩, 24), (⟨"RallyCardModel", "nextTime", "(III)I"⟩, 24), (⟨"RallyCardModel", "ownTime", "(II)I"⟩, 24), (⟨"RallyCardModel", "meanOf", "(I)I"⟩, 24)]
theorem lw_r2 : ∀ q ∈ lw_privs_2, lw_okq q := List.forall_mem_cons.mpr ⟨lw_p16, List.forall_mem_cons.mpr ⟨lw_p17, List.forall_mem_cons.mpr ⟨lw_p18, List.forall_mem_cons.mpr ⟨lw_p19, List.forall_mem_cons.mpr ⟨lw_p20, List.forall_mem_cons.mpr ⟨lw_p21, List.forall_mem_cons.mpr ⟨lw_p22, List.forall_mem_cons.mpr ⟨lw_p23, List.forall_mem_cons.mpr ⟨lw_p24, List.forall_mem_cons.mpr ⟨lw_p25, List.forall_mem_cons.mpr ⟨lw_p26, List.forall_mem_cons.mpr ⟨lw_p27, List.forall_mem_cons.mpr ⟨lw_p28, List.forall_mem_cons.mpr ⟨lw_p29, List.forall_mem_cons.mpr ⟨lw_p30, List.forall_mem_cons.mpr ⟨lw_p31, fun _ h => absurd h List.not_mem_nil⟩⟩⟩⟩⟩⟩⟩⟩⟩⟩⟩⟩⟩⟩⟩⟩
theorem lw_p32 : lw_okq (⟨"RallyCardModel", "startOf", "(II)I"⟩, 24) := ⟨⟨by decide +kernel, by decide +kernel⟩, List.mem_of_getElem? (i := 824) (by decide +kernel), List.mem_of_getElem? (i := 977) (by decide +kernel), List.mem_of_getElem? (i := 978) (by decide +kernel)⟩
theorem lw_p33 : lw_okq (⟨"RallyCardModel", "bestOf", "(I)I"⟩, 24) := ⟨⟨by decide +kernel, by decide +kernel⟩, List.mem_of_getElem? (i := 824) (by decide +kernel), List.mem_of_getElem? (i := 981) (by decide +kernel), List.mem_of_getElem? (i := 982) (by decide +kernel)⟩
theorem lw_p34 : lw_okq (⟨"RallyCardModel", "isRanked", "(I)Z"⟩, 24) := ⟨⟨by decide +kernel, by decide +kernel⟩, List.mem_of_getElem? (i := 824) (by decide +kernel), List.mem_of_getElem? (i := 985) (by decide +kernel), List.mem_of_getElem? (i := 986) (by decide +kernel)⟩
theorem lw_p35 : lw_okq (⟨"RallyCardModel", "isAhead", "(II)Z"⟩, 24) := ⟨⟨by decide +kernel, by decide +kernel⟩, List.mem_of_getElem? (i := 824) (by decide +kernel), List.mem_of_getElem? (i := 989) (by decide +kernel), List.mem_of_getElem? (i := 990) (by decide +kernel)⟩
theorem lw_p36 : lw_okq (⟨"RallyCardModel", "joins", "(II)V"⟩, 24) := ⟨⟨by decide +kernel, by decide +kernel⟩, List.mem_of_getElem? (i := 824) (by decide +kernel), List.mem_of_getElem? (i := 994) (by decide +kernel), List.mem_of_getElem? (i := 995) (by decide +kernel)⟩
theorem lw_p37 : lw_okq (⟨"RallyCardModel", "withRank", "(I)I"⟩, 24) := ⟨⟨by decide +kernel, by decide +kernel⟩, List.mem_of_getElem? (i := 824) (by decide +kernel), List.mem_of_getElem? (i := 998) (by decide +kernel), List.mem_of_getElem? (i := 999) (by decide +kernel)⟩
theorem lw_p38 : lw_okq (⟨"RallyCardModel", "dueAt", "(II)I"⟩, 24) := ⟨⟨by decide +kernel, by decide +kernel⟩, List.mem_of_getElem? (i := 824) (by decide +kernel), List.mem_of_getElem? (i := 1013) (by decide +kernel), List.mem_of_getElem? (i := 1014) (by decide +kernel)⟩
theorem lw_p39 : lw_okq (⟨"RallyCardModel", "ahead", "(I)I"⟩, 24) := ⟨⟨by decide +kernel, by decide +kernel⟩, List.mem_of_getElem? (i := 824) (by decide +kernel), List.mem_of_getElem? (i := 1017) (by decide +kernel), List.mem_of_getElem? (i := 1018) (by decide +kernel)⟩
theorem lw_p40 : lw_okq (⟨"RallyCardModel", "wrong", "(IIZ)I"⟩, 24) := ⟨⟨by decide +kernel, by decide +kernel⟩, List.mem_of_getElem? (i := 824) (by decide +kernel), List.mem_of_getElem? (i := 1034) (by decide +kernel), List.mem_of_getElem? (i := 1035) (by decide +kernel)⟩
theorem lw_p41 : lw_okq (⟨"RallyCardModel", "sumOf", "(I)I"⟩, 24) := ⟨⟨by decide +kernel, by decide +kernel⟩, List.mem_of_getElem? (i := 824) (by decide +kernel), List.mem_of_getElem? (i := 1083) (by decide +kernel), List.mem_of_getElem? (i := 1084) (by decide +kernel)⟩
theorem lw_p42 : lw_okq (⟨"RallyCardModel", "isBetter", "(II)Z"⟩, 24) := ⟨⟨by decide +kernel, by decide +kernel⟩, List.mem_of_getElem? (i := 824) (by decide +kernel), List.mem_of_getElem? (i := 1094) (by decide +kernel), List.mem_of_getElem? (i := 1095) (by decide +kernel)⟩
theorem lw_p43 : lw_okq (⟨"RallyCardModel", "often", "(II)I"⟩, 24) := ⟨⟨by decide +kernel, by decide +kernel⟩, List.mem_of_getElem? (i := 824) (by decide +kernel), List.mem_of_getElem? (i := 1098) (by decide +kernel), List.mem_of_getElem? (i := 1099) (by decide +kernel)⟩
def lw_privs_3 : List (MethodName × Nat) := [(⟨"RallyCardModel", "startOf", "(II)I"⟩, 24), (⟨"RallyCardModel", "bestOf", "(I)I"⟩, 24), (⟨"RallyCardModel", "isRanked", "(I)Z"⟩, 24), (⟨"RallyCardModel", "isAhead", "(II)Z"⟩, 24), (⟨"RallyCardModel", "joins", "(II)V"⟩, 24), (⟨"RallyCardModel", "withRank", "(I)I"⟩, 24), (⟨"RallyCardModel", "dueAt", "(II)I"⟩, 24), (⟨"RallyCardModel", "ahead", "(I)I"⟩, 24), (⟨"RallyCardModel", "wrong", "(IIZ)I"⟩, 24), (⟨"RallyCardModel", "sumOf", "(I)I"⟩, 24), (⟨"RallyCardModel", "isBetter", "(II)Z"⟩, 24), (⟨"RallyCardModel", "often", "(II)I"⟩, 24)]
theorem lw_r3 : ∀ q ∈ lw_privs_3, lw_okq q := List.forall_mem_cons.mpr ⟨lw_p32, List.forall_mem_cons.mpr ⟨lw_p33, List.forall_mem_cons.mpr ⟨lw_p34, List.forall_mem_cons.mpr ⟨lw_p35, List.forall_mem_cons.mpr ⟨lw_p36, List.forall_mem_cons.mpr ⟨lw_p37, List.forall_mem_cons.mpr ⟨lw_p38, List.forall_mem_cons.mpr ⟨lw_p39, List.forall_mem_cons.mpr ⟨lw_p40, List.forall_mem_cons.mpr ⟨lw_p41, List.forall_mem_cons.mpr ⟨lw_p42, List.forall_mem_cons.mpr ⟨lw_p43, fun _ h => absurd h List.not_mem_nil⟩⟩⟩⟩⟩⟩⟩⟩⟩⟩⟩⟩
def lw_privs : List (MethodName × Nat) := lw_privs_1 ++ (lw_privs_2 ++ (lw_privs_3))
def lw_tbl : List Cond := k2_sels lw_privs ++ tables_1
theorem lw_privs_ok : ∀ q ∈ lw_privs, lw_okq q := by
  show ∀ q ∈ lw_privs_1 ++ (lw_privs_2 ++ (lw_privs_3)), lw_okq q
  exact List.forall_mem_append.mpr ⟨lw_r1, List.forall_mem_append.mpr ⟨lw_r2, lw_r3⟩⟩
-- ===== end of PART A; then your names; then what follows =====
end
section
/-! ===== BEGIN words of one list among another's, by their places ===== -/
theorem goodIn_r {big : List Cond} (ws : List Cond) (ps : List Nat) (hp : ws = ps.filterMap (fun i => big[i]?)) (h : ws.all goodWord = true) : GoodIn big ws := by
  intro w hw
  have h1 := List.all_eq_true.mp h w hw
  rw [hp] at hw
  obtain ⟨i, -, hi⟩ := List.mem_filterMap.mp hw
  have hm : w ∈ big := by first | exact List.mem_of_getElem? hi | exact List.getElem?_mem hi
  exact ⟨hm, good_of_word h1⟩
theorem goodIn_app {big a b : List Cond} (ha : GoodIn big a) (hb : GoodIn big b) : GoodIn big (a ++ b) := fun w h => (List.mem_append.mp h).elim (ha w) (hb w)
theorem goodIn_ca {big a b : List Cond} {c : Cond} (ha : GoodIn big (c :: a)) (hb : GoodIn big b) : GoodIn big (c :: (a ++ b)) := fun w h => (List.mem_cons.mp h).elim (fun e => ha w (List.mem_cons.mpr (Or.inl e))) (fun h => (List.mem_append.mp h).elim (fun h => ha w (List.mem_cons.mpr (Or.inr h))) (hb w))
theorem goodIn_sub {big ws : List Cond} (hm : ∀ w ∈ ws, w ∈ big) (h : ws.all goodWord = true) : GoodIn big ws := fun w hw => ⟨hm w hw, good_of_word (List.all_eq_true.mp h w hw)⟩
/-! ===== END ===== -/

/-! ===== BEGIN exceptions that leave a method, and their catching by the caller (launches without stack traces) ===== -/
section VXA
/-! The laws vx_back, vx_callV, vx_callS, vx_callSW, vx_throw0, vx_throwS follow proofs of the library, with one case more: JvmDerived/Free/Laws.lean (Back.of_free), Shelf42/LK1.lean (callV, callS), Shelf/KitTraced.lean (throwNew0V, throwNewS). -/
/-- where a method has thrown q: the class by its name, the cell, what was written, the world -/
def vx_T (XC : String → State → State → Prop) (st : State) (q : Addr) (t : State) (mc ms : Nat) (free : Addr → Prop) : Prop :=
  ∃ (E : String) (ce : Cell) (L : List Loc), XC E st t ∧ t.heap[q]? = some ce ∧ ce.vm = .none ∧ st.vm.findClass E = some ce.cls ∧ st.WarmedH t.vm ∧ st.sameButNew ({ t with vm := st.vm } : State) L mc ms ∧ ∀ z ∈ L, free z.base
def vx_Q (Qc : Array Value → State → Outcome → State → Prop) (XC : String → State → State → Prop) (mc ms : Nat) (free : Addr → Prop) : Array Value → State → Outcome → State → Prop := fun a st o t =>
  (Qc a st o t ∧ ∃ L, FrameEnd st o t L mc ms ∧ ∀ q ∈ L, free q.base) ∨ ∃ q, o = .threw q ∧ vx_T XC st q t mc ms free
/-- a callee that returns or throws -/
def vx_Met (l : Launch) (y : MethodName) (ws : List Cond) (rm : Room) (Pc : Array Value → State → Prop) (Qc : Array Value → State → Outcome → State → Prop) (XC : String → State → State → Prop) (mc ms : Nat) (free : Addr → Prop) : Prop :=
  MetFree l y (headSpec ws rm) Pc (fun _ _ _ _ _ => True) (vx_Q Qc XC mc ms free)
def vx_Post (XC : String → State → State → Prop) (mc ms : Nat) (free : Addr → Prop) : Pt → Array Value → Addr → Pt → Prop := fun A a q B =>
  ∃ (g : JFrame) (mk : MethodId) (t : State) (L : List Loc) (E : String) (ce : Cell), B.U.heap = t.heap ∧ B.U.vm = t.vm ∧ XC E (A.U.calling g mk a) t ∧ t.heap[q]? = some ce ∧ ce.vm = .none ∧ A.U.vm.findClass E = some ce.cls ∧ B.locs = A.locs ++ L ∧ (∀ z ∈ L, free z.base) ∧ B.cells = A.cells + mc ∧ B.slots = A.slots + ms
def vx_Back (l : Launch) (R : Room) (p : Program) (e : Env) (below : List Frame) (s : State) (sargs : Array Value) (y : MethodName) (len W9 : Nat)
    (Pre : Pt → Array Value → Prop) (Post : Pt → Array Value → Option Value → Pt → Prop) (PostX : Pt → Array Value → Addr → Pt → Prop) : Prop :=
  ∀ (m : MethodId) (meth : Method) (c : Code) (A : Pt) (g : JFrame) (ig : Instr) (mk : MethodId) (a : Array Value),
    Stand p l e R s m sargs below meth c A.U A.locs A.cells A.slots → g.method = m → g.locals.size = c.maxLocals → decode c.code g.pc = .ok (ig, len) →
    2 * g.monitorRoom + (g.stack.map fun v => v.category).sum ≤ W9 → A.U.methodNamed? y = some mk → Pre A a →
    (∃ (v : Option Value) (B : Pt), Stand p l e R s m sargs below meth c B.U B.locs B.cells B.slots ∧ Post A a v B ∧
      Steps p.tables e below (doInvoke e (A.U.setTop g) [] mk a).1 (B.U.setTop { g with pc := g.pc + len, stack := v.toList ++ g.stack })) ∨
    (∃ (q : Addr) (B : Pt), Stand p l e R s m sargs below meth c B.U B.locs B.cells B.slots ∧ PostX A a q B ∧
      Steps p.tables e below (doInvoke e (A.U.setTop g) [] mk a).1 ((B.U.setTop g).pushFrame (.throwing q)))
section Payer
variable {l : Launch} {R : Room} {p : Program} {e : Env} {below : List Frame} {s : State} {sargs : Array Value} {y : MethodName} {len W9 : Nat}
theorem vx_back {ws : List Cond} {rm : Room} {Pc : Array Value → State → Prop} {Qc : Array Value → State → Outcome → State → Prop} {XC : String → State → State → Prop} {mc ms : Nat} {free : Addr → Prop} {bytes : ByteArray} {maxL : Nat} {ret : Option FieldType}
    (hM : vx_Met l y ws rm Pc Qc XC mc ms free) (hblind : FrameBlind Pc) (hrc : rm.cells = mc) (hrs : rm.slots = ms)
    (hframes : rm.frames + 1 ≤ R.frames) (hlocals : W9 + (maxL + 11) + rm.locals ≤ R.locals)
    (hws : ∀ w ∈ ws, ∀ a' U, s.WarmedH U.vm → w.before a' U = true) (hcode : Cond.code y bytes maxL ret ∈ ws) (hinit : ∀ a' U, s.WarmedH U.vm → (Cond.initialized y.cls).before a' U = true) :
    vx_Back l R p e below s sargs y len W9 (PreOf R mc ms Pc) (PostOf Qc mc ms free) (vx_Post XC mc ms free) := by
  intro m meth c A g ig mk a X hg hsize hdg hW hn hp
  have h1 : (headSpec ws rm).pre.before a A.U = true := atoms_intro fun w hw => hws w hw _ _ X.warmed
  have h2 : (Cond.code y bytes maxL ret).before a A.U = true := hws _ hcode _ _ X.warmed
  have h3 : (Cond.initialized y.cls).before a A.U = true := hinit _ _ X.warmed
  have h4 : A.cells + (headSpec ws rm).room.cells ≤ R.cells := by rw [show (headSpec ws rm).room.cells = mc from hrc]; exact hp.1
  have h5 : A.slots + (headSpec ws rm).room.slots ≤ R.slots := by rw [show (headSpec ws rm).room.slots = ms from hrs]; exact hp.2.1
  have hPc : Pc a (A.U.calling g mk a) := hblind _ _ _ _ hp.2.2
  obtain ⟨U, Ls, c0, s0⟩ := A
  dsimp only [Pt.U, Pt.locs, Pt.cells, Pt.slots] at h1 h2 h3 h4 h5 X hn hPc ⊢
  obtain ⟨methY, cY, hmY, hcY, -, hlY, -, -, -, -⟩ := Cond.code_spec hn h2
  obtain ⟨kY, hkY, -⟩ := className_of_methodNamed hn
  have hinitY : kY.init = .initialized := Cond.initialized_spec (findClass_of_methodNamed hn) hkY h3
  have h : At U g.method c below := by rw [hg]; exact X.here
  have hlocals9 : W9 + (maxL + 11) + (headSpec ws rm).room.locals ≤ R.locals := hlocals
  have happ : (headSpec ws rm).appliesLoose y e.platform (U.calling g mk a) = true :=
    Spec.appliesLoose_calling (g := g) h hdg hn hkY hinitY
      (X.room_calling (g := g) (R' := (headSpec ws rm).room) hsize hmY hcY hframes (by rw [hlY]; omega) h4 h5) h1
  obtain ⟨mid, hmid⟩ := h.above
  have hfr : (U.setTop g).frames = (.java g :: mid) ++ below := by rw [State.frames_setTop' g h.top, hmid]; rfl
  obtain ⟨o, s₂, hsteps, -, hend, hq⟩ := Steps.callFree hM p X.admits X.cas X.clock (acts := []) hfr happ hPc trivial
  have hq' : vx_Q Qc XC mc ms free a (U.calling g mk a) o s₂ := hq
  rw [State.frames_setTop' g h.top] at hend
  obtain ⟨g₀, hg0⟩ := Option.isSome_iff_exists.mp h.top
  obtain ⟨r, hr⟩ := State.topJava?_eq_some.mp hg0
  have hr' : (({ U with heap := s₂.heap, slotsUsed := s₂.slotsUsed } : State).setVm s₂.vm).frames = .java g₀ :: r := hr
  rcases hq' with ⟨hqc, L, hfe, hL⟩ | ⟨q, rfl, E, ce, L, hx, hce, hcv, hcl, hW₂, hsm, hL⟩
  · obtain ⟨⟨v, rfl⟩, hW₂, e2, q2, q3, q4, q5, q6⟩ := id hfe
    have e3 : s₂ = ({ (U.calling g mk a).setFrames s₂.frames with heap := s₂.heap, slotsUsed := s₂.slotsUsed } : State).setVm s₂.vm := by
      have : s₂ = ({ s₂ with vm := (U.calling g mk a).vm } : State).setVm s₂.vm := rfl
      rw [e2] at this
      exact this
    obtain ⟨c₂, i₂, len₂, hc₂, hd₂, hf₂⟩ := hend
    have hW' : U.WarmedH s₂.vm := hW₂
    have hcc : c₂ = c := by
      have h1 : s₂.code? g.method = U.code? g.method := by
        rw [State.code?_eq, State.code?_eq, hW'.alike.method?]
      exact Option.some.inj (hc₂.symm.trans (h1.trans h.code))
    subst hcc
    have hlen : len₂ = len := by rw [hdg] at hd₂; cases hd₂; rfl
    subst hlen
    have hs₂ : s₂ = (({ U with heap := s₂.heap, slotsUsed := s₂.slotsUsed } : State).setVm s₂.vm).setTop { g with pc := g.pc + len₂, stack := v.toList ++ g.stack } := by
      refine e3.trans ?_
      rw [hf₂, State.calling_eq h.top, State.setFrames_setFrames, State.setTop_of_frames _ hr', hr]
      rfl
    have hsame : U.sameButNew ({ U with heap := s₂.heap, slotsUsed := s₂.slotsUsed } : State) L mc ms := by
      refine ⟨?_, q2, q3, q4, q5, q6⟩
      obtain ⟨t, ht, -⟩ := State.frames_cons hr
      show ({ U with heap := s₂.heap, slotsUsed := s₂.slotsUsed } : State) = { U.setFrames U.frames with heap := s₂.heap, slotsUsed := s₂.slotsUsed }
      rw [State.setFrames_self ht]
    subst hg
    refine Or.inl ⟨v, ⟨(({ U with heap := s₂.heap, slotsUsed := s₂.slotsUsed } : State).setVm s₂.vm), Ls ++ L, c0 + mc, s0 + ms⟩,
      ⟨X.admits, X.cas, X.clock, X.frames, X.room, X.hears, X.method, X.code, (X.here.setHeapUsed s₂.heap s₂.slotsUsed).setVm hW'.alike, X.tail, State.WarmedH.trans X.warmed hW', X.limits, X.bytes, X.same.trans (hsame.setVm s.vm)⟩,
      ⟨g, mk, s₂, L, rfl, rfl, hqc, rfl, hL, rfl, rfl⟩, ?_⟩
    show Steps p.tables e below _ ((({ U with heap := s₂.heap, slotsUsed := s₂.slotsUsed } : State).setVm s₂.vm).setTop { g with pc := g.pc + len₂, stack := v.toList ++ g.stack })
    rw [← hs₂]
    exact hsteps
  · obtain ⟨e2, q2, q3, q4, q5, q6⟩ := id hsm
    have e3 : s₂ = ({ (U.calling g mk a).setFrames s₂.frames with heap := s₂.heap, slotsUsed := s₂.slotsUsed } : State).setVm s₂.vm := by
      have : s₂ = ({ s₂ with vm := (U.calling g mk a).vm } : State).setVm s₂.vm := rfl
      rw [e2] at this
      exact this
    have hf₂ : s₂.frames = .throwing q :: .java g :: U.frames.tail := hend
    have hW' : U.WarmedH s₂.vm := hW₂
    have hs₂ : s₂ = ((({ U with heap := s₂.heap, slotsUsed := s₂.slotsUsed } : State).setVm s₂.vm).setTop g).pushFrame (.throwing q) := by
      refine e3.trans ?_
      rw [hf₂, State.calling_eq h.top, State.setFrames_setFrames, State.pushFrame, State.frames_setTop _ hr', State.setTop_of_frames _ hr', State.setFrames_setFrames, hr]
      rfl
    have hsame : U.sameButNew ({ U with heap := s₂.heap, slotsUsed := s₂.slotsUsed } : State) L mc ms := by
      refine ⟨?_, q2, q3, q4, q5, q6⟩
      obtain ⟨t, ht, -⟩ := State.frames_cons hr
      show ({ U with heap := s₂.heap, slotsUsed := s₂.slotsUsed } : State) = { U.setFrames U.frames with heap := s₂.heap, slotsUsed := s₂.slotsUsed }
      rw [State.setFrames_self ht]
    subst hg
    refine Or.inr ⟨q, ⟨(({ U with heap := s₂.heap, slotsUsed := s₂.slotsUsed } : State).setVm s₂.vm), Ls ++ L, c0 + mc, s0 + ms⟩,
      ⟨X.admits, X.cas, X.clock, X.frames, X.room, X.hears, X.method, X.code, (X.here.setHeapUsed s₂.heap s₂.slotsUsed).setVm hW'.alike, X.tail, State.WarmedH.trans X.warmed hW', X.limits, X.bytes, X.same.trans (hsame.setVm s.vm)⟩,
      ⟨g, mk, s₂, L, E, ce, rfl, rfl, hx, hce, hcv, hcl, rfl, hL, rfl, rfl⟩, ?_⟩
    show Steps p.tables e below _ (((({ U with heap := s₂.heap, slotsUsed := s₂.slotsUsed } : State).setVm s₂.vm).setTop g).pushFrame (.throwing q))
    rw [← hs₂]
    exact hsteps
end Payer
section Calls
variable {p : Program} {l : Launch} {e : Env} {R : Room} {s : State} {m : MethodId} {args : Array Value} {below : List Frame} {meth : Method} {c : Code} {T : State} {locs : List Loc} {cells slots : Nat}
theorem vx_callV (X : Stand p l e R s m args below meth c T locs cells slots) (hexec : p.tables.exec = Jvm.exec) {own C : String} {index : Nat} {y : MethodName} {bytes : ByteArray} {maxL : Nat} {ret : Option FieldType}
    (hown : s.vm.findClass own = some m.cls) (hlink : (Cond.methodLink own index y).before args s = true) (hinst : (Cond.instanceMethod y).before args s = true) (hsel : (Cond.selects C y y).before args s = true)
    (hcode : (Cond.code y bytes maxL ret).before args s = true) (hy : y.cls ≠ "java/lang/invoke/MethodHandle" ∧ y.cls ≠ "java/lang/invoke/VarHandle")
    {W9 : Nat} {Pre : Pt → Array Value → Prop} {Post : Pt → Array Value → Option Value → Pt → Prop} {PostX : Pt → Array Value → Addr → Pt → Prop} (hK : vx_Back l R p e below s args y 3 W9 Pre Post PostX)
    {b : Addr} {cellB : Cell} (hcell : T.heap[b]? = some cellB) (hobj : cellB.vm.isStatics = false) (hcls : s.vm.findClass C = some cellB.cls)
    {g : JFrame} (hg : g.method = m) (hsize : g.locals.size = c.maxLocals) {argsL rest : List Value} (hlen : ∀ sig, parseMethodDescriptor y.desc = some sig → argsL.length = sig.parameters.length)
    (hstack : g.stack = argsL.reverse ++ .ref b :: rest) (hW : 2 * g.monitorRoom + (rest.map fun v => v.category).sum ≤ W9) (hdg : decode c.code g.pc = .ok (.invokevirtual index, 3))
    (hpre : ∀ vm₁, s.WarmedH vm₁ → Pre ⟨T.setVm vm₁, locs, cells, slots⟩ (Value.ref b :: argsL).toArray) :
    (∃ (v : Option Value) (vm₁ : Vm) (B : Pt), s.WarmedH vm₁ ∧ Stand p l e R s m args below meth c B.U B.locs B.cells B.slots ∧ Post ⟨T.setVm vm₁, locs, cells, slots⟩ (Value.ref b :: argsL).toArray v B ∧
      ∀ target, Steps p.tables e below (B.U.setTop { g with pc := g.pc + 3, stack := v.toList ++ rest }) target → Steps p.tables e below (T.setTop g) target) ∨
    (∃ (q : Addr) (vm₁ : Vm) (B : Pt), s.WarmedH vm₁ ∧ Stand p l e R s m args below meth c B.U B.locs B.cells B.slots ∧ PostX ⟨T.setVm vm₁, locs, cells, slots⟩ (Value.ref b :: argsL).toArray q B ∧
      Steps p.tables e below (T.setTop g) ((B.U.setTop { g with stack := rest }).pushFrame (.throwing q))) := by
  obtain ⟨mk, methM, hnamed, hmethM, hstM, habM⟩ := Cond.instanceMethod_spec hinst
  obtain ⟨methM', cM, hmethM', -, -, -, -, -, -, hsigM⟩ := Cond.code_spec hnamed hcode
  cases hmethM.symm.trans hmethM'
  obtain ⟨c2, r2, m2, q1, q2, q3, q4, kP, hkP, hkPi⟩ := Cond.selects_spec hsel
  cases hcls.symm.trans q1
  cases (State.methodFound?_of_named hnamed hy).symm.trans q2
  cases hnamed.symm.trans q3
  have hselP : selectMethod e.platform s.vm cellB.cls mk = .method mk := by rw [Launch.admits_selectMethod X.admits]; exact q4
  obtain ⟨vm₁, X₁, hstep₁⟩ := X.invokevirtual hexec hown hlink hnamed hmethM hstM hkP hkPi hy (a := b) (cell := cellB) hcell
    (fun z h => by rw [h] at hobj; cases hobj) hselP hmethM habM hkP hkPi (g := g) hg (argsL := argsL) (rest := rest) (hlen _ hsigM) hstack hdg
  rcases hK m meth c ⟨T.setVm vm₁, locs, cells, slots⟩ { g with stack := rest } (.invokevirtual index) mk (Value.ref b :: argsL).toArray X₁ hg hsize hdg hW (X₁.named hnamed) (hpre vm₁ X₁.warmed) with ⟨v, B, X', hpost, hsteps⟩ | ⟨q, B, X', hpost, hsteps⟩
  · exact Or.inl ⟨v, vm₁, B, X₁.warmed, X', hpost, fun target h => hstep₁ _ fun acts => by rw [doInvoke_state]; exact hsteps.trans h⟩
  · exact Or.inr ⟨q, vm₁, B, X₁.warmed, X', hpost, hstep₁ _ fun acts => by rw [doInvoke_state]; exact hsteps⟩
theorem vx_callS (X : Stand p l e R s m args below meth c T locs cells slots) (hexec : p.tables.exec = Jvm.exec) {own : String} {index : Nat} {y : MethodName} {bytes : ByteArray} {maxL : Nat} {ret : Option FieldType}
    (hown : s.vm.findClass own = some m.cls) (hlink : (Cond.methodLink own index y).before args s = true) (hstat : (Cond.static y).before args s = true) (hinit : (Cond.initialized y.cls).before args s = true)
    (hcode : (Cond.code y bytes maxL ret).before args s = true) (hy : y.cls ≠ "java/lang/invoke/MethodHandle" ∧ y.cls ≠ "java/lang/invoke/VarHandle")
    {W9 : Nat} {Pre : Pt → Array Value → Prop} {Post : Pt → Array Value → Option Value → Pt → Prop} {PostX : Pt → Array Value → Addr → Pt → Prop} (hK : vx_Back l R p e below s args y 3 W9 Pre Post PostX)
    {g : JFrame} (hg : g.method = m) (hsize : g.locals.size = c.maxLocals) {argsL rest : List Value} (hlen : ∀ sig, parseMethodDescriptor y.desc = some sig → argsL.length = sig.parameters.length)
    (hstack : g.stack = argsL.reverse ++ rest) (hW : 2 * g.monitorRoom + (rest.map fun v => v.category).sum ≤ W9) (hdg : decode c.code g.pc = .ok (.invokestatic index, 3))
    (hpre : ∀ vm₁, s.WarmedH vm₁ → Pre ⟨T.setVm vm₁, locs, cells, slots⟩ argsL.toArray) :
    (∃ (v : Option Value) (vm₁ : Vm) (B : Pt), s.WarmedH vm₁ ∧ Stand p l e R s m args below meth c B.U B.locs B.cells B.slots ∧ Post ⟨T.setVm vm₁, locs, cells, slots⟩ argsL.toArray v B ∧
      ∀ target, Steps p.tables e below (B.U.setTop { g with pc := g.pc + 3, stack := v.toList ++ rest }) target → Steps p.tables e below (T.setTop g) target) ∨
    (∃ (q : Addr) (vm₁ : Vm) (B : Pt), s.WarmedH vm₁ ∧ Stand p l e R s m args below meth c B.U B.locs B.cells B.slots ∧ PostX ⟨T.setVm vm₁, locs, cells, slots⟩ argsL.toArray q B ∧
      Steps p.tables e below (T.setTop g) ((B.U.setTop { g with stack := rest }).pushFrame (.throwing q))) := by
  obtain ⟨mk, hnamed⟩ := Cond.code_named hcode
  obtain ⟨methM, cM, hmethM, -, -, -, -, -, -, hsigM⟩ := Cond.code_spec hnamed hcode
  have hstatic : methM.isStatic = true := Cond.static_spec hnamed hmethM hstat
  obtain ⟨kP, hkP, -⟩ := className_of_methodNamed hnamed
  have hinitP : kP.init = .initialized := Cond.initialized_spec (findClass_of_methodNamed hnamed) hkP hinit
  obtain ⟨vm₁, X₁, hstep₁⟩ := X.invokestatic hexec hown hlink hnamed hmethM hstatic hkP hinitP hy (g := g) hg (argsL := argsL) (rest := rest) (hlen _ hsigM) hstack hdg
  rcases hK m meth c ⟨T.setVm vm₁, locs, cells, slots⟩ { g with stack := rest } (.invokestatic index) mk argsL.toArray X₁ hg hsize hdg hW (X₁.named hnamed) (hpre vm₁ X₁.warmed) with ⟨v, B, X', hpost, hsteps⟩ | ⟨q, B, X', hpost, hsteps⟩
  · exact Or.inl ⟨v, vm₁, B, X₁.warmed, X', hpost, fun target h => hstep₁ _ fun acts => by rw [doInvoke_state]; exact hsteps.trans h⟩
  · exact Or.inr ⟨q, vm₁, B, X₁.warmed, X', hpost, hstep₁ _ fun acts => by rw [doInvoke_state]; exact hsteps⟩
end Calls
theorem vx_cls {s : State} {T : State} {vm₁ : Vm} {E : String} {k : ClassId} (hW : s.WarmedH vm₁) (h : (T.setVm vm₁).vm.findClass E = some k) : s.vm.findClass E = some k := by
  have h1 : vm₁.findClass E = some k := h
  rw [hW.alike.findClass] at h1
  exact h1
/-- the method's frame g, with q thrown over it -/
def vx_W (p : Program) (l : Launch) (e : Env) (R : Room) (s : State) (m : MethodId) (args : Array Value) (below : List Frame) (meth : Method) (c : Code) (H : Heap) (locs : List Loc) (cells slots : Nat) (Q : State → Prop) (g : JFrame) (q : Addr) : Prop :=
  ∀ T : State, T.heap = H → Stand p l e R s m args below meth c T locs cells slots → ∃ t, Steps p.tables e below ((T.setTop g).pushFrame (.throwing q)) t ∧ Q t
def vx_Run (p : Program) (l : Launch) (e : Env) (R : Room) (s : State) (m : MethodId) (args : Array Value) (below : List Frame) (meth : Method) (c : Code) (H : Heap) (locs : List Loc) (cells slots mc ms : Nat) (g : JFrame) (rest : List Value) (Qa : State → Outcome → State → Prop) (XC : String → State → State → Prop) (free : Addr → Prop) : Prop :=
  ∀ T : State, T.heap = H → Stand p l e R s m args below meth c T locs cells slots →
    (∃ (v : Option Value) (st₀ t T' : State) (L : List Loc), st₀.heap = H ∧ Stand p l e R s m args below meth c T' (locs ++ L) (cells + mc) (slots + ms) ∧ (∀ q ∈ L, free q.base) ∧ T'.heap = t.heap ∧ T'.vm = t.vm ∧ Qa st₀ (.returned v) t ∧
      Goes p e below T g T' { g with pc := g.pc + 3, stack := v.toList ++ rest }) ∨
    (∃ (q : Addr) (st₀ t T' : State) (L : List Loc) (E : String) (ce : Cell), st₀.heap = H ∧ Stand p l e R s m args below meth c T' (locs ++ L) (cells + mc) (slots + ms) ∧ (∀ z ∈ L, free z.base) ∧ T'.heap = t.heap ∧ T'.vm = t.vm ∧ XC E st₀ t ∧ t.heap[q]? = some ce ∧ ce.vm = .none ∧ s.vm.findClass E = some ce.cls ∧
      Steps p.tables e below (T.setTop g) ((T'.setTop { g with stack := rest }).pushFrame (.throwing q)))
def vx_X {S : Type} (px : S → Prop) (B : String → S → State → Prop) (A : Nat → Prop) : String → State → State → Prop := fun E st t => ∃ u : S, px u ∧ B E u t ∧ va_F A st t
section Runs
variable {p : Program} {l : Launch} {e : Env} {R : Room} {s : State} {m : MethodId} {args : Array Value} {below : List Frame} {meth : Method} {c : Code} {H : Heap} {locs : List Loc} {cells slots : Nat}
variable {y : MethodName} {bytes cc : ByteArray} {maxL nL mc ms n index : Nat} {ret : Option FieldType} {ws : List Cond} {rm : Room} {Pc : Array Value → State → Prop} {Qc : Array Value → State → Outcome → State → Prop} {XC : String → State → State → Prop} {free : Addr → Prop} {Ts : List Cond} {own C : String} {b : Addr} {As rest : List Value} {g : JFrame}
theorem vx_callBack (cb : CallB R s args own index y bytes maxL ret ws rm mc ms n) (hM : vx_Met l y ws rm Pc Qc XC mc ms free) (hbl : FrameBlind Pc) : vx_Back l R p e below s args y 3 8 (PreOf R mc ms Pc) (PostOf Qc mc ms free) (vx_Post XC mc ms free) := by
  obtain ⟨hrc, hrs, hfr, hlo, hws, hcw, -, hini, -⟩ := cb
  exact vx_back (bytes := bytes) (maxL := maxL) (ret := ret) hM hbl hrc hrs hfr hlo hws hcw (fun a' U hW => word_at hW (Or.inl (by first | rfl | simp [Cond.onTables, Cond.keeps, Cond.steady])) hini)
theorem vx_runV (S : CallFix p m c cc nL s args Ts own) (hM : vx_Met l y ws rm Pc Qc XC mc ms free) (cw : CallW R s args own C index y bytes maxL ret ws rm mc ms n) (hp : PreV s H C b Pc As)
    (hg : g.method = m) (hn : As.length = n) (hsize : g.locals.size = nL) (hstack : g.stack = As.reverse ++ .ref b :: rest) (hW : 2 * g.monitorRoom + (rest.map fun v => v.category).sum ≤ 8) (hdg : decode cc g.pc = .ok (.invokevirtual index, 3)) (hf : cells + mc ≤ R.cells ∧ slots + ms ≤ R.slots) :
    vx_Run p l e R s m args below meth c H locs cells slots mc ms g rest (Qc (Value.ref b :: As).toArray) XC free := by
  have hK : vx_Back l R p e below s args y 3 8 (PreOf R mc ms Pc) (PostOf Qc mc ms free) (vx_Post XC mc ms free) := vx_callBack cw.1 hM hp.1
  obtain ⟨⟨-, -, -, -, -, -, hcode, -, hy, hlen, hl⟩, hin, hse⟩ := cw
  obtain ⟨hx, hb, hml, ho, -⟩ := S
  obtain ⟨-, ⟨cellB, hcB, hoB, hclB⟩, hPc⟩ := hp
  intro T hT X
  rcases vx_callV X hx (C := C) (bytes := bytes) (maxL := maxL) (ret := ret) ho hl hin hse hcode hy hK (by rw [hT]; exact hcB) hoB hclB hg (hsize.trans hml.symm) (argsL := As) (rest := rest) (fun sig h => hn.trans (hlen sig h)) hstack hW (by rw [hb]; exact hdg)
    (fun vm₁ hW₁ => ⟨hf.1, hf.2, hPc (T.setVm vm₁) hT hW₁⟩) with ⟨v, vm₁, ⟨U', l2, c2, s2⟩, hW₁, X', ⟨g', mk, t, L, e1, e2, hq, h1, hL, h2, h3⟩, st⟩ | ⟨q, vm₁, ⟨U', l2, c2, s2⟩, hW₁, X', ⟨g', mk, t, L, E, ce, e1, e2, hq, hce, hcv, hcl, h1, hL, h2, h3⟩, st⟩
  · dsimp only [Pt.U, Pt.locs, Pt.cells, Pt.slots] at X' e1 e2 h1 h2 h3 st
    subst h1; subst h2; subst h3
    exact Or.inl ⟨v, (T.setVm vm₁).calling g' mk (Value.ref b :: As).toArray, t, U', L, hT, X', hL, e1, e2, hq, st⟩
  · dsimp only [Pt.U, Pt.locs, Pt.cells, Pt.slots] at X' e1 e2 h1 h2 h3 st hcl
    subst h1; subst h2; subst h3
    exact Or.inr ⟨q, (T.setVm vm₁).calling g' mk (Value.ref b :: As).toArray, t, U', L, E, ce, hT, X', hL, e1, e2, hq, hce, hcv, vx_cls hW₁ hcl, st⟩
theorem vx_runS (S : CallFix p m c cc nL s args Ts own) (hM : vx_Met l y ws rm Pc Qc XC mc ms free) (cw : CallB R s args own index y bytes maxL ret ws rm mc ms n ∧ (Cond.static y).before args s = true) (hp : PreS s H Pc As)
    (hg : g.method = m) (hn : As.length = n) (hsize : g.locals.size = nL) (hstack : g.stack = As.reverse ++ rest) (hW : 2 * g.monitorRoom + (rest.map fun v => v.category).sum ≤ 8) (hdg : decode cc g.pc = .ok (.invokestatic index, 3)) (hf : cells + mc ≤ R.cells ∧ slots + ms ≤ R.slots) :
    vx_Run p l e R s m args below meth c H locs cells slots mc ms g rest (Qc As.toArray) XC free := by
  have hK : vx_Back l R p e below s args y 3 8 (PreOf R mc ms Pc) (PostOf Qc mc ms free) (vx_Post XC mc ms free) := vx_callBack cw.1 hM hp.1
  obtain ⟨⟨-, -, -, -, -, -, hcode, hini, hy, hlen, hl⟩, hstt⟩ := cw
  obtain ⟨hx, hb, hml, ho, -⟩ := S
  intro T hT X
  rcases vx_callS X hx (bytes := bytes) (maxL := maxL) (ret := ret) ho hl hstt hini hcode hy hK hg (hsize.trans hml.symm) (argsL := As) (rest := rest) (fun sig h => hn.trans (hlen sig h)) hstack hW (by rw [hb]; exact hdg)
    (fun vm₁ hW₁ => ⟨hf.1, hf.2, hp.2 (T.setVm vm₁) hT hW₁⟩) with ⟨v, vm₁, ⟨U', l2, c2, s2⟩, hW₁, X', ⟨g', mk, t, L, e1, e2, hq, h1, hL, h2, h3⟩, st⟩ | ⟨q, vm₁, ⟨U', l2, c2, s2⟩, hW₁, X', ⟨g', mk, t, L, E, ce, e1, e2, hq, hce, hcv, hcl, h1, hL, h2, h3⟩, st⟩
  · dsimp only [Pt.U, Pt.locs, Pt.cells, Pt.slots] at X' e1 e2 h1 h2 h3 st
    subst h1; subst h2; subst h3
    exact Or.inl ⟨v, (T.setVm vm₁).calling g' mk As.toArray, t, U', L, hT, X', hL, e1, e2, hq, st⟩
  · dsimp only [Pt.U, Pt.locs, Pt.cells, Pt.slots] at X' e1 e2 h1 h2 h3 st hcl
    subst h1; subst h2; subst h3
    exact Or.inr ⟨q, (T.setVm vm₁).calling g' mk As.toArray, t, U', L, E, ce, hT, X', hL, e1, e2, hq, hce, hcv, vx_cls hW₁ hcl, st⟩
end Runs
section Rows
variable {p : Program} {l : Launch} {e : Env} {R : Room} {s : State} {m : MethodId} {args : Array Value} {below : List Frame} {meth : Method} {c : Code} {H : Heap} {locs : List Loc} {cells slots : Nat} {Q : State → Prop}
variable {mc ms : Nat} {free : Addr → Prop} {A0 A1 : Nat → Prop} {H0 : Heap} {a : Array Value} {pc : Nat} {ls : Array Slot} {st0 rest : List Value}
theorem vx_keep {st₀ t T' : State} {L : List Loc} (h0 : st₀.heap = H) (e1 : T'.heap = t.heap) (hS : va_S A0 H0 H locs) (hA : ∀ q, q < H.size → A1 q → A0 q) (hf : ∀ q, free q → A0 q) (hL : ∀ q ∈ L, free q.base) (hF : va_F A1 st₀ t) :
    H.size ≤ T'.heap.size ∧ (∀ q : Nat, q < H.size → ¬ A1 q → T'.heap[q]? = H[q]?) ∧ va_S A0 H0 T'.heap (locs ++ L) := by
  obtain ⟨hz, hk⟩ := hF
  rw [h0] at hz hk
  exact ⟨by rw [e1]; exact hz, fun q h1 h2 => by rw [e1]; exact hk q h1 h2,
    ⟨Nat.le_trans hS.1 (by rw [e1]; exact hz), fun q h1 h2 => by rw [e1, hk q (Nat.lt_of_lt_of_le h1 hS.1) (fun z => h2 (hA q (Nat.lt_of_lt_of_le h1 hS.1) z))]; exact hS.2.1 q h1 h2, fun q hq => by
      rcases List.mem_append.mp hq with h | h
      · exact hS.2.2 q h
      · exact hf _ (hL q h)⟩⟩
theorem vx_calli {S SX : Type} {post : Int32 → S → Prop} {px : SX → Prop} {B : S → State → Prop} {BX : String → SX → State → Prop} {AX : Nat → Prop} (hr : vx_Run p l e R s m args below meth c H locs cells slots mc ms (F0 m pc ls st0) rest (va_Qi post B A1 a) (vx_X px BX AX) free) (hS : va_S A0 H0 H locs) (hA : ∀ q, q < H.size → A1 q → A0 q) (hf : ∀ q, free q → A0 q) (hAX : ∀ q, q < H.size → AX q → A0 q)
    (kx : ∀ (E : String) (ce : Cell) (q9 : Addr) (u : SX) (t : State) (H1 : Heap) (locs1 : List Loc), t.heap = H1 → s.vm.Alike t.vm → px u → BX E u t → H.size ≤ H1.size → (∀ q : Nat, q < H.size → ¬ AX q → H1[q]? = H[q]?) → va_S A0 H0 H1 locs1 → H1[q9]? = some ce → ce.vm = .none → s.vm.findClass E = some ce.cls → vx_W p l e R s m args below meth c H1 locs1 (cells + mc) (slots + ms) Q (F0 m pc ls rest) q9)
    (kk : ∀ (r : Int32) (u : S) (t : State) (H1 : Heap) (locs1 : List Loc), t.heap = H1 → s.vm.Alike t.vm → post r u → B u t → H.size ≤ H1.size → (∀ q : Nat, q < H.size → ¬ A1 q → H1[q]? = H[q]?) → va_S A0 H0 H1 locs1 → W p l e R s m args below meth c H1 locs1 (cells + mc) (slots + ms) Q (F0 m (pc + 3) ls (.int r :: rest))) : W p l e R s m args below meth c H locs cells slots Q (F0 m pc ls st0) := by
  intro T hT X
  rcases hr T hT X with ⟨v, st₀, t, T', L, h0, X', hL, e1, e2, ⟨⟨r, u, hv, hp, hb⟩, hF⟩, st⟩ | ⟨q, st₀, t, T', L, E, ce, h0, X', hL, e1, e2, ⟨u, hp, hb, hF⟩, hce, hcv, hcl, st⟩
  · cases hv
    obtain ⟨k1, k2, k3⟩ := vx_keep h0 e1 hS hA hf hL hF
    obtain ⟨t2, a1, b1⟩ := kk r u t T'.heap (locs ++ L) e1.symm (by rw [← e2]; exact X'.warmed.alike) hp hb k1 k2 k3 T' rfl X'
    exact ⟨t2, st t2 a1, b1⟩
  · obtain ⟨k1, k2, k3⟩ := vx_keep h0 e1 hS hAX hf hL hF
    obtain ⟨t2, a1, b1⟩ := kx E ce q u t T'.heap (locs ++ L) e1.symm (by rw [← e2]; exact X'.warmed.alike) hp hb k1 k2 k3 (by rw [e1]; exact hce) hcv hcl T' rfl X'
    exact ⟨t2, st.trans a1, b1⟩
theorem vx_calll {S SX : Type} {post : Int64 → S → Prop} {px : SX → Prop} {B : S → State → Prop} {BX : String → SX → State → Prop} {AX : Nat → Prop} (hr : vx_Run p l e R s m args below meth c H locs cells slots mc ms (F0 m pc ls st0) rest (va_Ql post B A1 a) (vx_X px BX AX) free) (hS : va_S A0 H0 H locs) (hA : ∀ q, q < H.size → A1 q → A0 q) (hf : ∀ q, free q → A0 q) (hAX : ∀ q, q < H.size → AX q → A0 q)
    (kx : ∀ (E : String) (ce : Cell) (q9 : Addr) (u : SX) (t : State) (H1 : Heap) (locs1 : List Loc), t.heap = H1 → s.vm.Alike t.vm → px u → BX E u t → H.size ≤ H1.size → (∀ q : Nat, q < H.size → ¬ AX q → H1[q]? = H[q]?) → va_S A0 H0 H1 locs1 → H1[q9]? = some ce → ce.vm = .none → s.vm.findClass E = some ce.cls → vx_W p l e R s m args below meth c H1 locs1 (cells + mc) (slots + ms) Q (F0 m pc ls rest) q9)
    (kk : ∀ (r : Int64) (u : S) (t : State) (H1 : Heap) (locs1 : List Loc), t.heap = H1 → s.vm.Alike t.vm → post r u → B u t → H.size ≤ H1.size → (∀ q : Nat, q < H.size → ¬ A1 q → H1[q]? = H[q]?) → va_S A0 H0 H1 locs1 → W p l e R s m args below meth c H1 locs1 (cells + mc) (slots + ms) Q (F0 m (pc + 3) ls (.long r :: rest))) : W p l e R s m args below meth c H locs cells slots Q (F0 m pc ls st0) := by
  intro T hT X
  rcases hr T hT X with ⟨v, st₀, t, T', L, h0, X', hL, e1, e2, ⟨⟨r, u, hv, hp, hb⟩, hF⟩, st⟩ | ⟨q, st₀, t, T', L, E, ce, h0, X', hL, e1, e2, ⟨u, hp, hb, hF⟩, hce, hcv, hcl, st⟩
  · cases hv
    obtain ⟨k1, k2, k3⟩ := vx_keep h0 e1 hS hA hf hL hF
    obtain ⟨t2, a1, b1⟩ := kk r u t T'.heap (locs ++ L) e1.symm (by rw [← e2]; exact X'.warmed.alike) hp hb k1 k2 k3 T' rfl X'
    exact ⟨t2, st t2 a1, b1⟩
  · obtain ⟨k1, k2, k3⟩ := vx_keep h0 e1 hS hAX hf hL hF
    obtain ⟨t2, a1, b1⟩ := kx E ce q u t T'.heap (locs ++ L) e1.symm (by rw [← e2]; exact X'.warmed.alike) hp hb k1 k2 k3 (by rw [e1]; exact hce) hcv hcl T' rfl X'
    exact ⟨t2, st.trans a1, b1⟩
theorem vx_callf {S SX : Type} {post : UInt32 → S → Prop} {px : SX → Prop} {B : S → State → Prop} {BX : String → SX → State → Prop} {AX : Nat → Prop} (hr : vx_Run p l e R s m args below meth c H locs cells slots mc ms (F0 m pc ls st0) rest (va_Qf post B A1 a) (vx_X px BX AX) free) (hS : va_S A0 H0 H locs) (hA : ∀ q, q < H.size → A1 q → A0 q) (hf : ∀ q, free q → A0 q) (hAX : ∀ q, q < H.size → AX q → A0 q)
    (kx : ∀ (E : String) (ce : Cell) (q9 : Addr) (u : SX) (t : State) (H1 : Heap) (locs1 : List Loc), t.heap = H1 → s.vm.Alike t.vm → px u → BX E u t → H.size ≤ H1.size → (∀ q : Nat, q < H.size → ¬ AX q → H1[q]? = H[q]?) → va_S A0 H0 H1 locs1 → H1[q9]? = some ce → ce.vm = .none → s.vm.findClass E = some ce.cls → vx_W p l e R s m args below meth c H1 locs1 (cells + mc) (slots + ms) Q (F0 m pc ls rest) q9)
    (kk : ∀ (r : UInt32) (u : S) (t : State) (H1 : Heap) (locs1 : List Loc), t.heap = H1 → s.vm.Alike t.vm → post r u → B u t → H.size ≤ H1.size → (∀ q : Nat, q < H.size → ¬ A1 q → H1[q]? = H[q]?) → va_S A0 H0 H1 locs1 → W p l e R s m args below meth c H1 locs1 (cells + mc) (slots + ms) Q (F0 m (pc + 3) ls (.float r :: rest))) : W p l e R s m args below meth c H locs cells slots Q (F0 m pc ls st0) := by
  intro T hT X
  rcases hr T hT X with ⟨v, st₀, t, T', L, h0, X', hL, e1, e2, ⟨⟨r, u, hv, hp, hb⟩, hF⟩, st⟩ | ⟨q, st₀, t, T', L, E, ce, h0, X', hL, e1, e2, ⟨u, hp, hb, hF⟩, hce, hcv, hcl, st⟩
  · cases hv
    obtain ⟨k1, k2, k3⟩ := vx_keep h0 e1 hS hA hf hL hF
    obtain ⟨t2, a1, b1⟩ := kk r u t T'.heap (locs ++ L) e1.symm (by rw [← e2]; exact X'.warmed.alike) hp hb k1 k2 k3 T' rfl X'
    exact ⟨t2, st t2 a1, b1⟩
  · obtain ⟨k1, k2, k3⟩ := vx_keep h0 e1 hS hAX hf hL hF
    obtain ⟨t2, a1, b1⟩ := kx E ce q u t T'.heap (locs ++ L) e1.symm (by rw [← e2]; exact X'.warmed.alike) hp hb k1 k2 k3 (by rw [e1]; exact hce) hcv hcl T' rfl X'
    exact ⟨t2, st.trans a1, b1⟩
theorem vx_calld {S SX : Type} {post : UInt64 → S → Prop} {px : SX → Prop} {B : S → State → Prop} {BX : String → SX → State → Prop} {AX : Nat → Prop} (hr : vx_Run p l e R s m args below meth c H locs cells slots mc ms (F0 m pc ls st0) rest (va_Qd post B A1 a) (vx_X px BX AX) free) (hS : va_S A0 H0 H locs) (hA : ∀ q, q < H.size → A1 q → A0 q) (hf : ∀ q, free q → A0 q) (hAX : ∀ q, q < H.size → AX q → A0 q)
    (kx : ∀ (E : String) (ce : Cell) (q9 : Addr) (u : SX) (t : State) (H1 : Heap) (locs1 : List Loc), t.heap = H1 → s.vm.Alike t.vm → px u → BX E u t → H.size ≤ H1.size → (∀ q : Nat, q < H.size → ¬ AX q → H1[q]? = H[q]?) → va_S A0 H0 H1 locs1 → H1[q9]? = some ce → ce.vm = .none → s.vm.findClass E = some ce.cls → vx_W p l e R s m args below meth c H1 locs1 (cells + mc) (slots + ms) Q (F0 m pc ls rest) q9)
    (kk : ∀ (r : UInt64) (u : S) (t : State) (H1 : Heap) (locs1 : List Loc), t.heap = H1 → s.vm.Alike t.vm → post r u → B u t → H.size ≤ H1.size → (∀ q : Nat, q < H.size → ¬ A1 q → H1[q]? = H[q]?) → va_S A0 H0 H1 locs1 → W p l e R s m args below meth c H1 locs1 (cells + mc) (slots + ms) Q (F0 m (pc + 3) ls (.double r :: rest))) : W p l e R s m args below meth c H locs cells slots Q (F0 m pc ls st0) := by
  intro T hT X
  rcases hr T hT X with ⟨v, st₀, t, T', L, h0, X', hL, e1, e2, ⟨⟨r, u, hv, hp, hb⟩, hF⟩, st⟩ | ⟨q, st₀, t, T', L, E, ce, h0, X', hL, e1, e2, ⟨u, hp, hb, hF⟩, hce, hcv, hcl, st⟩
  · cases hv
    obtain ⟨k1, k2, k3⟩ := vx_keep h0 e1 hS hA hf hL hF
    obtain ⟨t2, a1, b1⟩ := kk r u t T'.heap (locs ++ L) e1.symm (by rw [← e2]; exact X'.warmed.alike) hp hb k1 k2 k3 T' rfl X'
    exact ⟨t2, st t2 a1, b1⟩
  · obtain ⟨k1, k2, k3⟩ := vx_keep h0 e1 hS hAX hf hL hF
    obtain ⟨t2, a1, b1⟩ := kx E ce q u t T'.heap (locs ++ L) e1.symm (by rw [← e2]; exact X'.warmed.alike) hp hb k1 k2 k3 (by rw [e1]; exact hce) hcv hcl T' rfl X'
    exact ⟨t2, st.trans a1, b1⟩
theorem vx_callv {S SX : Type} {post : S → Prop} {px : SX → Prop} {B : S → State → Prop} {BX : String → SX → State → Prop} {AX : Nat → Prop} (hr : vx_Run p l e R s m args below meth c H locs cells slots mc ms (F0 m pc ls st0) rest (va_Qv post B A1 a) (vx_X px BX AX) free) (hS : va_S A0 H0 H locs) (hA : ∀ q, q < H.size → A1 q → A0 q) (hf : ∀ q, free q → A0 q) (hAX : ∀ q, q < H.size → AX q → A0 q)
    (kx : ∀ (E : String) (ce : Cell) (q9 : Addr) (u : SX) (t : State) (H1 : Heap) (locs1 : List Loc), t.heap = H1 → s.vm.Alike t.vm → px u → BX E u t → H.size ≤ H1.size → (∀ q : Nat, q < H.size → ¬ AX q → H1[q]? = H[q]?) → va_S A0 H0 H1 locs1 → H1[q9]? = some ce → ce.vm = .none → s.vm.findClass E = some ce.cls → vx_W p l e R s m args below meth c H1 locs1 (cells + mc) (slots + ms) Q (F0 m pc ls rest) q9)
    (kk : ∀ (u : S) (t : State) (H1 : Heap) (locs1 : List Loc), t.heap = H1 → s.vm.Alike t.vm → post u → B u t → H.size ≤ H1.size → (∀ q : Nat, q < H.size → ¬ A1 q → H1[q]? = H[q]?) → va_S A0 H0 H1 locs1 → W p l e R s m args below meth c H1 locs1 (cells + mc) (slots + ms) Q (F0 m (pc + 3) ls (rest))) : W p l e R s m args below meth c H locs cells slots Q (F0 m pc ls st0) := by
  intro T hT X
  rcases hr T hT X with ⟨v, st₀, t, T', L, h0, X', hL, e1, e2, ⟨⟨u, hv, hp, hb⟩, hF⟩, st⟩ | ⟨q, st₀, t, T', L, E, ce, h0, X', hL, e1, e2, ⟨u, hp, hb, hF⟩, hce, hcv, hcl, st⟩
  · cases hv
    obtain ⟨k1, k2, k3⟩ := vx_keep h0 e1 hS hA hf hL hF
    obtain ⟨t2, a1, b1⟩ := kk u t T'.heap (locs ++ L) e1.symm (by rw [← e2]; exact X'.warmed.alike) hp hb k1 k2 k3 T' rfl X'
    exact ⟨t2, st t2 a1, b1⟩
  · obtain ⟨k1, k2, k3⟩ := vx_keep h0 e1 hS hAX hf hL hF
    obtain ⟨t2, a1, b1⟩ := kx E ce q u t T'.heap (locs ++ L) e1.symm (by rw [← e2]; exact X'.warmed.alike) hp hb k1 k2 k3 (by rw [e1]; exact hce) hcv hcl T' rfl X'
    exact ⟨t2, st.trans a1, b1⟩
/-- caught by the row x of this method's table; the rows ahead don't take it -/
theorem vx_catch {own name : String} {E : String} {ce : Cell} {q : Addr} (hown : s.vm.findClass own = some m.cls) (pre : List ExceptionTableEntry) (x : ExceptionTableEntry) (suf : List ExceptionTableEntry) (hsplit : c.exceptionTable.toList = pre ++ x :: suf)
    (hpass : ∀ z ∈ pre, covers z pc = false ∨ (z.catchType ≠ 0 ∧ ∃ nm : String, (Cond.classLink own z.catchType nm).before args s = true ∧ va_Nc E nm s)) (hx : covers x pc = true) (h0 : x.catchType ≠ 0)
    (hlink : (Cond.classLink own x.catchType name).before args s = true) (hcast : (Cond.castable E name).before args s = true) (hcell : H[q]? = some ce) (hv : ce.vm = .none) (hcl : s.vm.findClass E = some ce.cls)
    (kk : W p l e R s m args below meth c H locs cells slots Q (F0 m x.handlerPc ls [.ref q])) : vx_W p l e R s m args below meth c H locs cells slots Q (F0 m pc ls rest) q := by
  intro T hT X
  have hpl : e.platform.magicAccessors = ({} : Platform).magicAccessors := by rw [X.admits.platform]
  obtain ⟨c3, c4, hc3, hc4, hasg⟩ := Cond.castable_spec hcast
  cases Option.some.inj (hc3.symm.trans hcl)
  obtain ⟨c5, hc5, hcl5⟩ := Cond.classLink_spec hown hlink e.platform hpl
  cases Option.some.inj (hc4.symm.trans hc5)
  obtain ⟨vm', X', st⟩ := X.thenCaughtThrough q (g := F0 m pc ls rest) rfl (Steps.refl _) (by rw [hT]; exact hcell) (by rw [hv]; rfl) (by obtain ⟨k9, h9, -⟩ := Vm.findClass_spec hcl; exact ⟨k9, h9⟩) pre x suf hsplit
    (fun z hz => by
      rcases hpass z hz with h | ⟨hz0, nm, hl1, hn1⟩
      · exact Or.inl h
      · obtain ⟨c6, hc6, hcl6⟩ := Cond.classLink_spec hown hl1 e.platform hpl
        obtain ⟨a8, b8, h1, h2, h3⟩ := hn1
        cases Option.some.inj (h1.symm.trans hcl)
        cases Option.some.inj (h2.symm.trans hc6)
        exact Or.inr ⟨hz0, _, hcl6, h3⟩) hx (Or.inr ⟨h0, c4, hcl5, hasg⟩)
  obtain ⟨t, a1, b1⟩ := kk (T.setVm vm') hT X'
  exact ⟨t, st.trans a1, b1⟩
end Rows
section Ends
variable {p : Program} {l : Launch} {e : Env} {R : Room} {s : State} {m : MethodId} {args : Array Value} {below : List Frame} {meth : Method} {c : Code} {H : Heap} {locs : List Loc} {cells slots : Nat} {Q : State → Prop}
variable {mc ms : Nat} {free : Addr → Prop} {A0 A1 : Nat → Prop} {H0 : Heap} {a : Array Value} {ls : Array Slot} {st0 rest : List Value}
variable {Qc : Array Value → State → Outcome → State → Prop} {XC : String → State → State → Prop}
/-- what a body that may throw owes at its end -/
def vx_MQ (below : List Frame) (Qc : Array Value → State → Outcome → State → Prop) (XC : String → State → State → Prop) (a : Array Value) (s : State) (mc ms : Nat) (free : Addr → Prop) : State → Prop := fun t =>
  ∃ o, t.status = .running ∧ Ended t below o ∧ vx_Q Qc XC mc ms free a s o t
theorem vx_ret {g : JFrame} {mc ms : Nat} (k : W p l e R s m args below meth c H locs cells slots (MQ below Qc args s mc ms free) g) : W p l e R s m args below meth c H locs cells slots (vx_MQ below Qc XC args s mc ms free) g := by
  intro T hT X
  obtain ⟨t, a1, o, b1, b2, b3, b4⟩ := k T hT X
  exact ⟨t, a1, o, b1, b2, Or.inl ⟨b3, b4⟩⟩
/-- not caught here: it goes on to the caller -/
theorem vx_widen {g : JFrame} {q : Addr} {k n : Nat} (h1 : cells ≤ k) (h2 : slots ≤ n) (kk : vx_W p l e R s m args below meth c H locs k n Q g q) : vx_W p l e R s m args below meth c H locs cells slots Q g q := fun T hT X => kk T hT (stand_widen X h1 h2)
theorem vx_out {pc : Nat} {E : String} {ce : Cell} {q : Addr} {mc ms : Nat} (hout : ∀ x ∈ c.exceptionTable.toList, covers x pc = false) (hlocks : meth.locks = false) (hcell : H[q]? = some ce) (hv : ce.vm = .none) (hcl : s.vm.findClass E = some ce.cls)
    (hx : ∀ t : State, t.heap = H → s.vm.Alike t.vm → XC E s t) (hf : ∀ z ∈ locs, free z.base) (hc : cells ≤ mc) (hs : slots ≤ ms) :
    vx_W p l e R s m args below meth c H locs cells slots (vx_MQ below Qc XC args s mc ms free) (F0 m pc ls rest) q := by
  intro T hT X
  obtain ⟨st1, hrun, hend, hW, hsm⟩ := X.leaveThrown q (g := F0 m pc ls rest) rfl rfl rfl hout hlocks
  have hcell9 : (T.setFrames (.throwing q :: below)).heap[q]? = some ce := by
    show T.heap[q]? = some ce
    rw [hT]; exact hcell
  exact ⟨_, st1, .threw q, hrun, hend, Or.inr ⟨q, rfl, E, ce, locs, hx _ hT hW.alike, hcell9, hv, hcl, hW, hsm.mono hc hs, hf⟩⟩
theorem vx_frame {U : State} {k n : Nat} (h : s.sameButNew ({ U with vm := s.vm } : State) locs k n) : s.heap.size ≤ U.heap.size ∧ ∀ q : Nat, q < s.heap.size → (∀ z ∈ locs, z.base ≠ q) → U.heap[q]? = s.heap[q]? := by
  obtain ⟨-, h2, -, -, -, h6⟩ := h
  refine ⟨h2, fun q hq hz => ?_⟩
  obtain ⟨c9, e1, e2, e3, e4⟩ := h6 q _ (Array.getElem?_eq_getElem hq)
  have hs : c9.slots = (s.heap[q]).slots := Array.ext_getElem? fun i => e4 i fun hm => hz _ hm rfl
  have h9 : c9 = s.heap[q] := by
    rw [hs] at e2
    exact e2
  have e5 : U.heap[q]? = some c9 := e1
  rw [e5, h9, Array.getElem?_eq_getElem hq]
/-- the words of a throw but the four that speak of the heap -/
def vx_no (w : Cond) : Bool := decide (w ≠ .isRef (.static Bundle.tN "UNASSIGNED_STACK" Bundle.steD)) && decide (w ≠ .isRef (.static Bundle.tN "SUPPRESSED_SENTINEL" Bundle.listD)) && decide (w ≠ .laysStatic Bundle.tN "UNASSIGNED_STACK" Bundle.steD) && decide (w ≠ .laysStatic Bundle.tN "SUPPRESSED_SENTINEL" Bundle.listD)
def vx_at0 (own : String) (ic : Nat) (X : String) (names : List String) : List Cond := (Bundle.ownAtoms0 own ic X names).filter vx_no
def vx_atS (own : String) (ic : Nat) (X : String) (names : List String) : List Cond := (Bundle.ownAtoms own ic X names).filter vx_no
/-- a word that the tables alone decide, or a good one -/
def vx_ot (w : Cond) : Bool := w.onTables || goodWord w
theorem vx_ot_at {args a' : Array Value} {s U : State} {w : Cond} (hW : s.WarmedH U.vm) (hvm : s.vm = U.vm) (hg : vx_ot w = true) (h : w.before args s = true) : w.before a' U = true := by
  simp only [vx_ot, Bool.or_eq_true] at hg
  rcases hg with hg | hg
  · exact va_tabs hg hvm h
  · exact word_at hW (good_of_word hg) h
/-- a list's words: the good ones out of the method's own list, the others by premises of their own -/
theorem vx_hat {args : Array Value} {s : State} {L B : List Cond} (h1 : ∀ w ∈ L.filter goodWord, w.before args s = true) (h2 : ∀ w ∈ L.filter (fun w => !goodWord w), w ∈ B) (h3 : ∀ w ∈ B, w.before args s = true) : ∀ w ∈ L, w.before args s = true := by
  intro w hw
  by_cases g : goodWord w = true
  · exact h1 w (List.mem_filter.mpr ⟨hw, g⟩)
  · refine h3 w (h2 w (List.mem_filter.mpr ⟨hw, ?_⟩))
    show (!goodWord w) = true
    cases hgw : goodWord w
    · rfl
    · exact absurd hgw g
theorem vx_c {args : Array Value} {s : State} {w : Cond} {B : List Cond} (h : w.before args s = true) (t : ∀ w ∈ B, w.before args s = true) : ∀ w' ∈ w :: B, w'.before args s = true := fun w' h' => (List.mem_cons.mp h').elim (fun e => by rw [e]; exact h) (t w')
theorem vx_n {args : Array Value} {s : State} : ∀ w ∈ ([] : List Cond), w.before args s = true := fun _ h => nomatch h
theorem vx_own {args : Array Value} {s : State} {L : List Cond} (h1 : ∀ w ∈ L.filter vx_no, w.before args s = true)
    (hU : (Cond.isRef (.static Bundle.tN "UNASSIGNED_STACK" Bundle.steD)).before args s = true) (hN : (Cond.isRef (.static Bundle.tN "SUPPRESSED_SENTINEL" Bundle.listD)).before args s = true)
    (lU : (Cond.laysStatic Bundle.tN "UNASSIGNED_STACK" Bundle.steD).before args s = true) (lN : (Cond.laysStatic Bundle.tN "SUPPRESSED_SENTINEL" Bundle.listD).before args s = true) : ∀ w ∈ L, w.before args s = true := by
  intro w hw
  by_cases e1 : w = .isRef (.static Bundle.tN "UNASSIGNED_STACK" Bundle.steD)
  · rw [e1]; exact hU
  · by_cases e2 : w = .isRef (.static Bundle.tN "SUPPRESSED_SENTINEL" Bundle.listD)
    · rw [e2]; exact hN
    · by_cases e3 : w = .laysStatic Bundle.tN "UNASSIGNED_STACK" Bundle.steD
      · rw [e3]; exact lU
      · by_cases e4 : w = .laysStatic Bundle.tN "SUPPRESSED_SENTINEL" Bundle.listD
        · rw [e4]; exact lN
        · exact h1 w (List.mem_filter.mpr ⟨hw, by unfold vx_no; rw [decide_eq_true e1, decide_eq_true e2, decide_eq_true e3, decide_eq_true e4]; rfl⟩)
/-- where a static field lies, its class's statics cell in H -/
def vx_L (C n d : String) (A : Nat → Prop) (U : State) (H : Heap) : Prop := ∃ (c : ClassId) (k : Class) (i : Nat) (f : Field) (a : Nat) (cell : Cell), U.vm.findClass C = some c ∧ U.fieldFound? C n d = some (c, k, i, f) ∧ f.isStatic = true ∧ k.statics = some a ∧ H[a]? = some cell ∧ cell.vm.isStatics = true ∧ cell.cls = c ∧ f.slot < cell.slots.size ∧ k.staticTypes[f.slot]? = some f.type ∧ ¬ A a
theorem vx_L.moved {C n d : String} {A : Nat → Prop} {u U : State} {H : Heap} (hvm : u.vm.Alike U.vm) (h : vx_L C n d A u H) : vx_L C n d A U H := by
  obtain ⟨c, k, i, f, a, cell, h1, h2, h3, h4, h5, h6, h7, h8, h9, h10⟩ := h
  obtain ⟨k', hi', he⟩ := State.fieldFound?_setVm hvm h2
  exact ⟨c, k', i, f, a, cell, by rw [hvm.findClass]; exact h1, hi', h3, by rw [he]; exact h4, h5, h6, h7, h8, by rw [he]; exact h9, h10⟩
theorem vx_L.kept {C n d : String} {A : Nat → Prop} {U : State} {H H1 : Heap} (h : vx_L C n d A U H) (hq : ∀ a : Nat, a < H.size → ¬ A a → H1[a]? = H[a]?) : vx_L C n d A U H1 := by
  obtain ⟨c, k, i, f, a, cell, h1, h2, h3, h4, h5, h6, h7, h8, h9, h10⟩ := h
  exact ⟨c, k, i, f, a, cell, h1, h2, h3, h4, by rw [hq a (Array.getElem?_eq_some_iff.mp h5).1 h10]; exact h5, h6, h7, h8, h9, h10⟩
theorem vx_L.narrow {C n d : String} {A B : Nat → Prop} {U : State} {H : Heap} (h : vx_L C n d A U H) (hAB : ∀ q, B q → A q) : vx_L C n d B U H := by
  obtain ⟨c, k, i, f, a, cell, h1, h2, h3, h4, h5, h6, h7, h8, h9, h10⟩ := h
  exact ⟨c, k, i, f, a, cell, h1, h2, h3, h4, h5, h6, h7, h8, h9, fun z => h10 (hAB _ z)⟩
theorem vx_L.word {C n d : String} {A : Nat → Prop} {s : State} {args : Array Value} (h : vx_L C n d A s s.heap) : (Cond.laysStatic C n d).before args s = true := by
  obtain ⟨c, k, i, f, a, cell, h1, h2, h3, h4, h5, h6, h7, h8, h9, -⟩ := h
  show (Cond.laysStatic C n d).holds args s none s [] = true
  exact Cond.laysStatic_of h1 h2 h3 h4 h5 h6 h7 h8 h9
/-- .. and what it holds: null or some reference -/
def vx_Zq (C n d : String) (A : Nat → Prop) (U : State) (H : Heap) : Prop := va_Zq C n d A U H ∧ vx_L C n d A U H
theorem vx_Zq.moved {C n d : String} {A : Nat → Prop} {u U : State} {H : Heap} (hvm : u.vm.Alike U.vm) (h : vx_Zq C n d A u H) : vx_Zq C n d A U H := ⟨va_Zq.moved hvm h.1, vx_L.moved hvm h.2⟩
theorem vx_Zq.kept {C n d : String} {A : Nat → Prop} {U : State} {H H1 : Heap} (h : vx_Zq C n d A U H) (hq : ∀ a : Nat, a < H.size → ¬ A a → H1[a]? = H[a]?) : vx_Zq C n d A U H1 := ⟨va_Zq.kept h.1 hq, vx_L.kept h.2 hq⟩
theorem vx_Zq.narrow {C n d : String} {A B : Nat → Prop} {U : State} {H : Heap} (h : vx_Zq C n d A U H) (hAB : ∀ q, B q → A q) : vx_Zq C n d B U H := ⟨va_Zq.narrow h.1 hAB, vx_L.narrow h.2 hAB⟩
theorem vx_Zqof {args : Array Value} {s : State} {C n d : String} {A : Nat → Prop} (hl : (Cond.laysStatic C n d).before args s = true) (hini : (Cond.initialized C).before args s = true) (h : (Cond.isRef (.static C n d)).before args s = true) (hA : ∀ a : Nat, a < s.heap.size → ¬ A a) : vx_Zq C n d A s s.heap := by
  refine ⟨va_Zqof hl hini h hA, ?_⟩
  obtain ⟨c, k, i, f, a, cell, h1, h2, h3, h4, h5, h6, h7, h8, h9⟩ := Cond.laysStatic_spec hl
  exact ⟨c, k, i, f, a, cell, h1, h2, h3, h4, h5, h6, h7, h8, h9, hA a (Array.getElem?_eq_some_iff.mp h5).1⟩
theorem vx_isRef {C n d : String} {v : Value} {A : Nat → Prop} {s : State} {args : Array Value} (h : va_Z C n d v A s s.heap) (hv : v.isRef = true) : (Cond.isRef (.static C n d)).before args s = true := by
  obtain ⟨cf, kf, fi, f, a, cell, h1, h2, h3, h4, h5, h6, h7, -⟩ := h
  have he : (Term.static C n d).eval args s none [] s = some v := by
    simp [Term.eval, State.fieldNamed?, h1, h2, h4, h5, h6, h7]
  simp only [Cond.before, Cond.holds, Cond.value, he]
  cases v <;> simp_all [Value.isRef]
theorem vx_isRefq {C n d : String} {A : Nat → Prop} {s : State} {args : Array Value} (h : va_Zq C n d A s s.heap) : (Cond.isRef (.static C n d)).before args s = true := by
  rcases h with h | ⟨t, h⟩
  · exact vx_isRef h rfl
  · exact vx_isRef h rfl
/-- the same frame, seen from here: as if the method were called anew in this heap -/
theorem vx_rebase {T : State} (X : Stand p l e R s m args below meth c T locs cells slots) {R' : Room} (hf : R'.frames ≤ R.frames) (hl : R'.locals ≤ R.locals) (hc : cells + R'.cells ≤ R.cells) (hs : slots + R'.slots ≤ R.slots) :
    Stand p l e R' ((T.setVm s.vm).setFrames (.invoking m args :: below)) m args below meth c T [] 0 0 := by
  have htop : (T.setVm s.vm).topJava?.isSome := X.here.top
  have hF : ((T.setVm s.vm).setFrames (.invoking m args :: below)).frames = .invoking m args :: below := State.frames_setFrames _ (State.cur_lt_of_top htop)
  obtain ⟨g₀, hg0⟩ := Option.isSome_iff_exists.mp htop
  obtain ⟨r, hr⟩ := State.topJava?_eq_some.mp hg0
  have hl9 : e.platform.stackLimits (T.setVm s.vm).me = e.platform.stackLimits s.me := X.limits
  have hb9 : (T.setVm s.vm).me.stackBytes = s.me.stackBytes := X.bytes
  refine ⟨X.admits, X.cas, X.clock, hF, ?_, X.hears, X.method, X.code, X.here, X.tail, X.warmed, ?_, ?_, ?_⟩
  · have h := X.room
    have hU : ((T.setVm s.vm).setFrames (.invoking m args :: below)).localsInUse = s.localsInUse := by
      rw [State.localsInUse_invoking hF (meth := meth) (c := c) X.method X.code, State.localsInUse_invoking X.frames X.method X.code]
    simp only [State.hasRoom, Bool.and_eq_true, decide_eq_true_eq] at h ⊢
    obtain ⟨⟨⟨⟨h1, h2, h3, h4, h5, h6⟩, h7⟩, h8⟩, h9⟩ := h
    rw [X.frames, List.length_cons] at h2 h3
    have q1 := X.heapSize
    have q2 := X.used
    simp only [hF, hU, List.length_cons, State.stackLimits_setFrames, State.stackBytes_setFrames, hl9, hb9]
    refine ⟨⟨⟨⟨by omega, by omega, by omega, by omega, by omega, h6⟩, ?_⟩, ?_⟩, X.book⟩
    · show T.heap.size + R'.cells ≤ e.platform.maxCells
      omega
    · show T.slotsUsed + R'.slots ≤ e.platform.maxSlots
      omega
  · rw [State.stackLimits_setFrames]; rfl
  · rw [State.stackBytes_setFrames]; rfl
  · refine ⟨?_, Nat.le_refl _, Nat.le_refl _, ?_, ?_, fun a c9 h9 => ⟨c9, h9, rfl, rfl, fun _ _ => rfl⟩⟩
    · obtain ⟨t, ht, -⟩ := State.frames_cons hr
      show T.setVm s.vm = { ((T.setVm s.vm).setFrames (.invoking m args :: below)).setFrames (T.setVm s.vm).frames with heap := T.heap, slotsUsed := T.slotsUsed }
      rw [State.setFrames_setFrames, State.setFrames_self ht]
      rfl
    · show T.slotsUsed = T.slotsUsed + ((T.heap.toList.drop T.heap.size).map (·.slots.size)).sum
      rw [List.drop_eq_nil_of_le (Nat.le_of_eq Array.length_toList)]
      rfl
    · show ((T.heap.toList.drop T.heap.size).map (·.slots.size)).sum ≤ 0
      rw [List.drop_eq_nil_of_le (Nat.le_of_eq Array.length_toList)]
      exact Nat.le_refl _
/-- 'throw new E()': new; dup; invokespecial; athrow -/
theorem vx_throw0 {cc : ByteArray} {pc : Nat} (hexec : p.tables.exec = Jvm.exec) (hb : c.code = cc) (hl : l.stackTraces = false) {own cls : String} {names : List String} {ik ic mc ms : Nat} {A : Nat → Prop}
    (hown : s.vm.findClass own = some m.cls) (hcls : Bundle.fit cls = true) (hnames : ∀ n ∈ names, Bundle.fit n = true)
    (hk : (Cond.classLink own ik cls).before args s = true) (hini : (Cond.initialized cls).before args s = true) (hat : ∀ w ∈ vx_at0 own ic cls names, w.before args s = true)
    (hgood : ∀ w ∈ Cond.classLink own ik cls :: Cond.initialized cls :: vx_at0 own ic cls names, vx_ot w = true)
    (hU : vx_Zq Bundle.tN "UNASSIGNED_STACK" Bundle.steD A s s.heap) (hN : vx_Zq Bundle.tN "SUPPRESSED_SENTINEL" Bundle.listD A s s.heap) (hS : va_S A s.heap H locs) (hsize : ls.size = c.maxLocals)
    (d0 : decode cc pc = .ok (.new ik, 3)) (d3 : decode cc (pc + 3) = .ok (.dup, 1)) (d4 : decode cc (pc + 4) = .ok (.invokespecial ic, 3)) (d7 : decode cc (pc + 7) = .ok (.athrow, 1))
    (hout : ∀ x ∈ c.exceptionTable.toList, covers x (pc + 7) = false)
    (hRframes : names.length + 3 < R.frames) (hRlocals : (rest.map fun v => v.category).sum + (13 * (names.length + 1) + 42) ≤ R.locals) (hRcells : cells + 1 ≤ R.cells) (hRslots : slots + 6 ≤ R.slots) (hlocks : meth.locks = false)
    (hx : ∀ t : State, s.vm.Alike t.vm → H.size ≤ t.heap.size → (∀ q : Nat, q < H.size → t.heap[q]? = H[q]?) → XC cls s t)
    (hf : ∀ z ∈ locs, free z.base) (hc : cells + 1 ≤ mc) (hs : slots + 6 ≤ ms) :
    W p l e R s m args below meth c H locs cells slots (vx_MQ below Qc XC args s mc ms free) (F0 m pc ls rest) := by
  intro T hT X
  have htr : e.platform.stackTraces = false := (show e.platform.stackTraces = l.stackTraces by rw [X.admits.platform]).trans hl
  have Y := vx_rebase X (R' := { frames := R.frames, locals := R.locals, cells := 1, slots := 6 }) (Nat.le_refl _) (Nat.le_refl _) hRcells hRslots
  obtain ⟨s', hA⟩ : ∃ z, z = (T.setVm s.vm).setFrames (.invoking m args :: below) := ⟨_, rfl⟩
  rw [← hA] at Y
  have hvm : s'.vm = s.vm := by rw [hA]; rfl
  have hhp : s'.heap = H := by rw [hA]; exact hT
  have hW0 : s.WarmedH s'.vm := by rw [hvm]; exact State.WarmedH.refl s
  have hat' : ∀ w ∈ vx_at0 own ic cls names, w.before args s' = true := fun w hw => vx_ot_at hW0 hvm.symm (hgood w (List.mem_cons_of_mem _ (List.mem_cons_of_mem _ hw))) (hat w hw)
  have hk' : (Cond.classLink own ik cls).before args s' = true := vx_ot_at hW0 hvm.symm (hgood _ List.mem_cons_self) hk
  have hini' : (Cond.initialized cls).before args s' = true := vx_ot_at hW0 hvm.symm (hgood _ (List.mem_cons_of_mem _ List.mem_cons_self)) hini
  have hU' : vx_Zq Bundle.tN "UNASSIGNED_STACK" Bundle.steD A s' s'.heap := by rw [hhp]; exact vx_Zq.moved hW0.alike (hU.kept hS.2.1)
  have hN' : vx_Zq Bundle.tN "SUPPRESSED_SENTINEL" Bundle.listD A s' s'.heap := by rw [hhp]; exact vx_Zq.moved hW0.alike (hN.kept hS.2.1)
  have h : ∀ w ∈ Bundle.ownAtoms0 own ic cls names, w.before args s' = true := vx_own hat' (vx_isRefq hU'.1) (vx_isRefq hN'.1) hU'.2.word hN'.2.word
  have hown' : s'.vm.findClass own = some m.cls := by rw [hvm]; exact hown
  have hins : (Cond.instantiable cls 6).before args s' = true := h _ (by simp [Bundle.ownAtoms0])
  obtain ⟨vm₁, cX, kX, hfX, hkX, -, -, X₁, st1⟩ := Y.newCold hexec (own := own) (C := cls) (index := ik) (n := 6) hown' hk' hins hini'
    (g := F0 m pc ls rest) rfl (by rw [hb]; exact d0) (Nat.le_refl _) (Nat.le_refl _)
  generalize hT1 : (T.setVm vm₁).pushCell { cls := cX, slots := kX.instanceTypes.map defaultValue, vm := .none } = T1 at X₁ st1
  have hcat : (Value.ref T.heap.size).category = 1 := rfl
  have hcellA : T1.heap[T.heap.size]? = some (freshCell cX kX) := by rw [← hT1]; exact State.heap_pushCell_size _ _
  have d3' : decode c.code (pc + 3) = .ok (.dup, 1) := by rw [hb]; exact d3
  obtain ⟨U, hsteps, hrun, hend, hW, hsame, ce, hce, hO⟩ := X₁.ctorThrow0 hexec htr (own := own) (cls := cls) (names := names) (ic := ic) hown' hcls hnames h (fun x hx => nomatch hx) hfX hkX hcellA (by rw [hhp, hT]; exact Nat.le_refl _)
    (g := { method := m, pc := pc + 4, locals := ls, stack := .ref T.heap.size :: .ref T.heap.size :: rest, locked := none }) rfl hsize rfl rfl (rest := rest) rfl
    (by rw [hb]; exact d4) (by rw [hb]; exact d7) hout hRframes (by simp only [List.map_cons, List.sum_cons, hcat]; omega) hlocks
  obtain ⟨f1, f2⟩ := vx_frame hsame
  rw [hhp] at f1 f2
  have hWs : s.WarmedH U.vm := State.WarmedH.trans hW0 hW
  have hcl : s.vm.findClass cls = some ce.cls := by
    have h9 := hO.cls
    rw [hvm] at h9
    exact h9
  have hall : s.sameButNew ({ U with vm := s.vm } : State) locs mc ms := by
    subst hA
    obtain ⟨e1, e2⟩ := hsame
    rw [State.setFrames_setFrames] at e1
    have h2 : (T.setVm s.vm).sameButNew ({ U with vm := s.vm } : State) [] (0 + 1) (0 + 6) := ⟨e1, e2⟩
    have h3 := X.same.trans h2
    rw [List.append_nil] at h3
    exact h3.mono hc hs
  refine ⟨U, ?_, .threw T.heap.size, hrun, hend, Or.inr ⟨T.heap.size, rfl, cls, ce, locs, hx U hWs.alike f1 (fun q hq => f2 q hq (fun z hz => nomatch hz)), hce, hO.vm, hcl, hWs, hall, hf⟩⟩
  refine st1 _ ?_
  show Steps p.tables e below (T1.setTop { method := m, pc := pc + 3, locals := ls, stack := .ref T.heap.size :: rest, locked := none }) _
  jvm_step X₁.here [X₁.here.top, hexec, d3', Value.category]
  exact hsteps
/-- 'throw new E("text")': new; dup; ldc; invokespecial; athrow -/
theorem vx_throwS {cc : ByteArray} {pc : Nat} (hexec : p.tables.exec = Jvm.exec) (hb : c.code = cc) (hl : l.stackTraces = false) {own cls text : String} {names : List String} {ik is ic mc ms sa : Nat} {A : Nat → Prop}
    (hown : s.vm.findClass own = some m.cls) (hcls : Bundle.fit cls = true) (hnames : ∀ n ∈ names, Bundle.fit n = true)
    (hk : (Cond.classLink own ik cls).before args s = true) (hini : (Cond.initialized cls).before args s = true) (hstr : vk_R own is text sa s) (hat : ∀ w ∈ vx_atS own ic cls names, w.before args s = true)
    (hgood : ∀ w ∈ Cond.classLink own ik cls :: Cond.initialized cls :: vx_atS own ic cls names, vx_ot w = true)
    (hU : vx_Zq Bundle.tN "UNASSIGNED_STACK" Bundle.steD A s s.heap) (hN : vx_Zq Bundle.tN "SUPPRESSED_SENTINEL" Bundle.listD A s s.heap) (hS : va_S A s.heap H locs) (hsize : ls.size = c.maxLocals)
    (d0 : decode cc pc = .ok (.new ik, 3)) (d3 : decode cc (pc + 3) = .ok (.dup, 1)) (d4 : decode cc (pc + 4) = .ok (.ldc is, 2)) (d6 : decode cc (pc + 6) = .ok (.invokespecial ic, 3)) (d9 : decode cc (pc + 9) = .ok (.athrow, 1))
    (hout : ∀ x ∈ c.exceptionTable.toList, covers x (pc + 9) = false)
    (hRframes : names.length + 3 < R.frames) (hRlocals : (rest.map fun v => v.category).sum + (13 * (names.length + 1) + 43) ≤ R.locals) (hRcells : cells + 1 ≤ R.cells) (hRslots : slots + 6 ≤ R.slots) (hlocks : meth.locks = false)
    (hx : ∀ t : State, s.vm.Alike t.vm → H.size ≤ t.heap.size → (∀ q : Nat, q < H.size → t.heap[q]? = H[q]?) → XC cls s t)
    (hf : ∀ z ∈ locs, free z.base) (hc : cells + 1 ≤ mc) (hs : slots + 6 ≤ ms) :
    W p l e R s m args below meth c H locs cells slots (vx_MQ below Qc XC args s mc ms free) (F0 m pc ls rest) := by
  intro T hT X
  have htr : e.platform.stackTraces = false := (show e.platform.stackTraces = l.stackTraces by rw [X.admits.platform]).trans hl
  have Y := vx_rebase X (R' := { frames := R.frames, locals := R.locals, cells := 1, slots := 6 }) (Nat.le_refl _) (Nat.le_refl _) hRcells hRslots
  obtain ⟨s', hA⟩ : ∃ z, z = (T.setVm s.vm).setFrames (.invoking m args :: below) := ⟨_, rfl⟩
  rw [← hA] at Y
  have hvm : s'.vm = s.vm := by rw [hA]; rfl
  have hhp : s'.heap = H := by rw [hA]; exact hT
  have hW0 : s.WarmedH s'.vm := by rw [hvm]; exact State.WarmedH.refl s
  have hat' : ∀ w ∈ vx_atS own ic cls names, w.before args s' = true := fun w hw => vx_ot_at hW0 hvm.symm (hgood w (List.mem_cons_of_mem _ (List.mem_cons_of_mem _ hw))) (hat w hw)
  have hk' : (Cond.classLink own ik cls).before args s' = true := vx_ot_at hW0 hvm.symm (hgood _ List.mem_cons_self) hk
  have hini' : (Cond.initialized cls).before args s' = true := vx_ot_at hW0 hvm.symm (hgood _ (List.mem_cons_of_mem _ List.mem_cons_self)) hini
  have hU' : vx_Zq Bundle.tN "UNASSIGNED_STACK" Bundle.steD A s' s'.heap := by rw [hhp]; exact vx_Zq.moved hW0.alike (hU.kept hS.2.1)
  have hN' : vx_Zq Bundle.tN "SUPPRESSED_SENTINEL" Bundle.listD A s' s'.heap := by rw [hhp]; exact vx_Zq.moved hW0.alike (hN.kept hS.2.1)
  have h : ∀ w ∈ Bundle.ownAtoms own ic cls names, w.before args s' = true := vx_own hat' (vx_isRefq hU'.1) (vx_isRefq hN'.1) hU'.2.word hN'.2.word
  have hown' : s'.vm.findClass own = some m.cls := by rw [hvm]; exact hown
  have hins : (Cond.instantiable cls 6).before args s' = true := h _ (by simp [Bundle.ownAtoms])
  obtain ⟨vm₁, cX, kX, hfX, hkX, -, -, X₁, st1⟩ := Y.newCold hexec (own := own) (C := cls) (index := ik) (n := 6) hown' hk' hins hini'
    (g := F0 m pc ls rest) rfl (by rw [hb]; exact d0) (Nat.le_refl _) (Nat.le_refl _)
  generalize hT1 : (T.setVm vm₁).pushCell { cls := cX, slots := kX.instanceTypes.map defaultValue, vm := .none } = T1 at X₁ st1
  have hcat : (Value.ref T.heap.size).category = 1 := rfl
  have hcellA : T1.heap[T.heap.size]? = some (freshCell cX kX) := by rw [← hT1]; exact State.heap_pushCell_size _ _
  have d3' : decode c.code (pc + 3) = .ok (.dup, 1) := by rw [hb]; exact d3
  have d4' : decode c.code (pc + 4) = .ok (.ldc is, 2) := by rw [hb]; exact d4
  have hstr' : vk_R own is text sa s' := vk_R.warm hW0 hstr
  obtain ⟨U, hsteps, hrun, hend, hW, hsame, ce, hce, hO⟩ := X₁.ctorThrowS hexec htr (own := own) (cls := cls) (names := names) (ic := ic) hown' hcls hnames h (fun x hx => nomatch hx) hfX hkX hcellA (by rw [hhp, hT]; exact Nat.le_refl _) (msg := .ref sa) rfl
    (g := { method := m, pc := pc + 6, locals := ls, stack := .ref sa :: .ref T.heap.size :: .ref T.heap.size :: rest, locked := none }) rfl hsize rfl rfl (rest := rest) rfl
    (by rw [hb]; exact d6) (by rw [hb]; exact d9) hout hRframes (by simp only [List.map_cons, List.sum_cons, hcat]; omega) hlocks
  obtain ⟨f1, f2⟩ := vx_frame hsame
  rw [hhp] at f1 f2
  have hWs : s.WarmedH U.vm := State.WarmedH.trans hW0 hW
  have hcl : s.vm.findClass cls = some ce.cls := by
    have h9 := hO.cls
    rw [hvm] at h9
    exact h9
  have hall : s.sameButNew ({ U with vm := s.vm } : State) locs mc ms := by
    subst hA
    obtain ⟨e1, e2⟩ := hsame
    rw [State.setFrames_setFrames] at e1
    have h2 : (T.setVm s.vm).sameButNew ({ U with vm := s.vm } : State) [] (0 + 1) (0 + 6) := ⟨e1, e2⟩
    have h3 := X.same.trans h2
    rw [List.append_nil] at h3
    exact h3.mono hc hs
  refine ⟨U, ?_, .threw T.heap.size, hrun, hend, Or.inr ⟨T.heap.size, rfl, cls, ce, locs, hx U hWs.alike f1 (fun q hq => f2 q hq (fun z hz => nomatch hz)), hce, hO.vm, hcl, hWs, hall, hf⟩⟩
  refine st1 _ ?_
  show Steps p.tables e below (T1.setTop { method := m, pc := pc + 3, locals := ls, stack := .ref T.heap.size :: rest, locked := none }) _
  jvm_step X₁.here [X₁.here.top, hexec, d3', Value.category]
  exact X₁.ldcString hexec (own := own) (text := text) (index := is) (a := sa) hown' hstr'.1 hstr'.2
    (g := { method := m, pc := pc + 4, locals := ls, stack := .ref T.heap.size :: .ref T.heap.size :: rest, locked := none }) rfl d4' _ hsteps
/-- 'throw new E("text")', the text by a wide index -/
theorem vx_throwSW {cc : ByteArray} {pc : Nat} (hexec : p.tables.exec = Jvm.exec) (hb : c.code = cc) (hl : l.stackTraces = false) {own cls text : String} {names : List String} {ik is ic mc ms sa : Nat} {A : Nat → Prop}
    (hown : s.vm.findClass own = some m.cls) (hcls : Bundle.fit cls = true) (hnames : ∀ n ∈ names, Bundle.fit n = true)
    (hk : (Cond.classLink own ik cls).before args s = true) (hini : (Cond.initialized cls).before args s = true) (hstr : vk_R own is text sa s) (hat : ∀ w ∈ vx_atS own ic cls names, w.before args s = true)
    (hgood : ∀ w ∈ Cond.classLink own ik cls :: Cond.initialized cls :: vx_atS own ic cls names, vx_ot w = true)
    (hU : vx_Zq Bundle.tN "UNASSIGNED_STACK" Bundle.steD A s s.heap) (hN : vx_Zq Bundle.tN "SUPPRESSED_SENTINEL" Bundle.listD A s s.heap) (hS : va_S A s.heap H locs) (hsize : ls.size = c.maxLocals)
    (d0 : decode cc pc = .ok (.new ik, 3)) (d3 : decode cc (pc + 3) = .ok (.dup, 1)) (d4 : decode cc (pc + 4) = .ok (.ldc_w is, 3)) (d7 : decode cc (pc + 7) = .ok (.invokespecial ic, 3)) (d10 : decode cc (pc + 10) = .ok (.athrow, 1))
    (hout : ∀ x ∈ c.exceptionTable.toList, covers x (pc + 10) = false)
    (hRframes : names.length + 3 < R.frames) (hRlocals : (rest.map fun v => v.category).sum + (13 * (names.length + 1) + 43) ≤ R.locals) (hRcells : cells + 1 ≤ R.cells) (hRslots : slots + 6 ≤ R.slots) (hlocks : meth.locks = false)
    (hx : ∀ t : State, s.vm.Alike t.vm → H.size ≤ t.heap.size → (∀ q : Nat, q < H.size → t.heap[q]? = H[q]?) → XC cls s t)
    (hf : ∀ z ∈ locs, free z.base) (hc : cells + 1 ≤ mc) (hs : slots + 6 ≤ ms) :
    W p l e R s m args below meth c H locs cells slots (vx_MQ below Qc XC args s mc ms free) (F0 m pc ls rest) := by
  intro T hT X
  have htr : e.platform.stackTraces = false := (show e.platform.stackTraces = l.stackTraces by rw [X.admits.platform]).trans hl
  have Y := vx_rebase X (R' := { frames := R.frames, locals := R.locals, cells := 1, slots := 6 }) (Nat.le_refl _) (Nat.le_refl _) hRcells hRslots
  obtain ⟨s', hA⟩ : ∃ z, z = (T.setVm s.vm).setFrames (.invoking m args :: below) := ⟨_, rfl⟩
  rw [← hA] at Y
  have hvm : s'.vm = s.vm := by rw [hA]; rfl
  have hhp : s'.heap = H := by rw [hA]; exact hT
  have hW0 : s.WarmedH s'.vm := by rw [hvm]; exact State.WarmedH.refl s
  have hat' : ∀ w ∈ vx_atS own ic cls names, w.before args s' = true := fun w hw => vx_ot_at hW0 hvm.symm (hgood w (List.mem_cons_of_mem _ (List.mem_cons_of_mem _ hw))) (hat w hw)
  have hk' : (Cond.classLink own ik cls).before args s' = true := vx_ot_at hW0 hvm.symm (hgood _ List.mem_cons_self) hk
  have hini' : (Cond.initialized cls).before args s' = true := vx_ot_at hW0 hvm.symm (hgood _ (List.mem_cons_of_mem _ List.mem_cons_self)) hini
  have hU' : vx_Zq Bundle.tN "UNASSIGNED_STACK" Bundle.steD A s' s'.heap := by rw [hhp]; exact vx_Zq.moved hW0.alike (hU.kept hS.2.1)
  have hN' : vx_Zq Bundle.tN "SUPPRESSED_SENTINEL" Bundle.listD A s' s'.heap := by rw [hhp]; exact vx_Zq.moved hW0.alike (hN.kept hS.2.1)
  have h : ∀ w ∈ Bundle.ownAtoms own ic cls names, w.before args s' = true := vx_own hat' (vx_isRefq hU'.1) (vx_isRefq hN'.1) hU'.2.word hN'.2.word
  have hown' : s'.vm.findClass own = some m.cls := by rw [hvm]; exact hown
  have hins : (Cond.instantiable cls 6).before args s' = true := h _ (by simp [Bundle.ownAtoms])
  obtain ⟨vm₁, cX, kX, hfX, hkX, -, -, X₁, st1⟩ := Y.newCold hexec (own := own) (C := cls) (index := ik) (n := 6) hown' hk' hins hini'
    (g := F0 m pc ls rest) rfl (by rw [hb]; exact d0) (Nat.le_refl _) (Nat.le_refl _)
  generalize hT1 : (T.setVm vm₁).pushCell { cls := cX, slots := kX.instanceTypes.map defaultValue, vm := .none } = T1 at X₁ st1
  have hcat : (Value.ref T.heap.size).category = 1 := rfl
  have hcellA : T1.heap[T.heap.size]? = some (freshCell cX kX) := by rw [← hT1]; exact State.heap_pushCell_size _ _
  have d3' : decode c.code (pc + 3) = .ok (.dup, 1) := by rw [hb]; exact d3
  have d4' : decode c.code (pc + 4) = .ok (.ldc_w is, 3) := by rw [hb]; exact d4
  have hstr' : vk_R own is text sa s' := vk_R.warm hW0 hstr
  obtain ⟨U, hsteps, hrun, hend, hW, hsame, ce, hce, hO⟩ := X₁.ctorThrowS hexec htr (own := own) (cls := cls) (names := names) (ic := ic) hown' hcls hnames h (fun x hx => nomatch hx) hfX hkX hcellA (by rw [hhp, hT]; exact Nat.le_refl _) (msg := .ref sa) rfl
    (g := { method := m, pc := pc + 7, locals := ls, stack := .ref sa :: .ref T.heap.size :: .ref T.heap.size :: rest, locked := none }) rfl hsize rfl rfl (rest := rest) rfl
    (by rw [hb]; exact d7) (by rw [hb]; exact d10) hout hRframes (by simp only [List.map_cons, List.sum_cons, hcat]; omega) hlocks
  obtain ⟨f1, f2⟩ := vx_frame hsame
  rw [hhp] at f1 f2
  have hWs : s.WarmedH U.vm := State.WarmedH.trans hW0 hW
  have hcl : s.vm.findClass cls = some ce.cls := by
    have h9 := hO.cls
    rw [hvm] at h9
    exact h9
  have hall : s.sameButNew ({ U with vm := s.vm } : State) locs mc ms := by
    subst hA
    obtain ⟨e1, e2⟩ := hsame
    rw [State.setFrames_setFrames] at e1
    have h2 : (T.setVm s.vm).sameButNew ({ U with vm := s.vm } : State) [] (0 + 1) (0 + 6) := ⟨e1, e2⟩
    have h3 := X.same.trans h2
    rw [List.append_nil] at h3
    exact h3.mono hc hs
  refine ⟨U, ?_, .threw T.heap.size, hrun, hend, Or.inr ⟨T.heap.size, rfl, cls, ce, locs, hx U hWs.alike f1 (fun q hq => f2 q hq (fun z hz => nomatch hz)), hce, hO.vm, hcl, hWs, hall, hf⟩⟩
  refine st1 _ ?_
  show Steps p.tables e below (T1.setTop { method := m, pc := pc + 3, locals := ls, stack := .ref T.heap.size :: rest, locked := none }) _
  jvm_step X₁.here [X₁.here.top, hexec, d3', Value.category]
  exact X₁.ldcStringW hexec (own := own) (text := text) (index := is) (a := sa) hown' hstr'.1 hstr'.2
    (g := { method := m, pc := pc + 4, locals := ls, stack := .ref T.heap.size :: .ref T.heap.size :: rest, locked := none }) rfl d4' _ hsteps
end Ends
section Bodies
variable {l : Launch}
theorem vx_ofW {y : MethodName} {ws ws' : List Cond} {rm : Room} {Pc : Array Value → State → Prop} {Qc : Array Value → State → Outcome → State → Prop} {XC : String → State → State → Prop} {mc ms : Nat} {free : Addr → Prop} {cc : ByteArray} {maxL : Nat} {ret : Option FieldType}
    (hy : plainName y.cls = true) (hw : ws = Cond.code y cc maxL ret :: ws')
    (body : ∀ p e s m args below meth c s₁, BodyLoose p l y (headSpec ws rm) cc maxL ret e s m args below meth c s₁ → c.maxLocals = maxL → (∀ x ∈ c.exceptionTable.toList, False) → Pc args s →
      W p l e (headSpec ws rm).room s m args below meth c s.heap [] 0 0 (vx_MQ below Qc XC args s mc ms free) (entryFrame m args maxL)) : vx_Met l y ws rm Pc Qc XC mc ms free := by
  refine MetFree.of_bodyS (code := cc) (maxLocals := maxL) (ret := ret) hy ?_ ?_
  · intro args s m h hn
    obtain ⟨meth, c, h1, h2, h3, h4, h5, h6, -, -⟩ := Cond.code_spec hn (atoms_spec (ws := ws) h _ (by rw [hw]; exact List.mem_cons_self))
    exact ⟨meth, c, h1, h2, h3, h4, h5, h6⟩
  · intro p e s m args below meth c s₁ B hml hP _
    have hh0 : s₁.heap = s.heap := by rw [B.state]; rfl
    have ht : ∀ x ∈ c.exceptionTable.toList, False := by
      obtain ⟨meth9, c9, h1, h2, -, -, -, -, h7, -⟩ := Cond.code_spec B.named (atoms_spec (ws := ws) B.pre _ (by rw [hw]; exact List.mem_cons_self))
      cases Option.some.inj (h1.symm.trans B.method)
      cases Option.some.inj (h2.symm.trans (Stand.of_body B).code)
      intro x hx
      rw [Array.isEmpty_iff.mp h7] at hx
      cases hx
    obtain ⟨t, a1, o, b1, b2, b3⟩ := body p e s m args below meth c s₁ B hml ht hP s₁ hh0 (Stand.of_body B)
    exact ⟨t, o, a1, b1, b2, b3⟩
/-- the table of a body with handlers -/
theorem vx_table {p : Program} {x y : MethodName} {S : Spec} {cc bytes : ByteArray} {maxL maxL' : Nat} {ret ret' : Option FieldType} {e : Env} {s s₁ : State} {m : MethodId} {args : Array Value} {below : List Frame} {meth : Method} {c : Code} {hh : List (Nat × Nat × Nat × Nat)}
    (B : BodyLoose p l y S cc maxL ret e s m args below meth c s₁) (h : (Cond.codeWith y bytes maxL' ret' hh).before args s = true) : c.exceptionTable.toList = tableOf hh := by
  obtain ⟨m9, meth9, c9, hn9, h1, h2, -, -, h6, -⟩ := Cond.codeWith_spec h
  cases Option.some.inj (hn9.symm.trans B.named)
  cases Option.some.inj (h1.symm.trans B.method)
  cases Option.some.inj (h2.symm.trans (Stand.of_body B).code)
  rw [← h6, table_eq]
end Bodies
end VXA
/-! ===== END ===== -/
/-! ===== BEGIN a static call of a method with an exception table ===== -/
section VXS
variable {p : Program} {l : Launch} {e : Env} {R : Room} {s : State} {m : MethodId} {args : Array Value} {below : List Frame} {meth : Method} {c : Code} {T : State} {H : Heap} {locs : List Loc} {cells slots : Nat}
abbrev vx_CSW (R : Room) (s : State) (args : Array Value) (own : String) (index : Nat) (y : MethodName) (bytes : ByteArray) (maxL : Nat) (ret : Option FieldType) (hh : List (Nat × Nat × Nat × Nat)) (ws : List Cond) (rm : Room) (mc ms n : Nat) : Prop :=
  (rm.cells = mc ∧ rm.slots = ms ∧ rm.frames + 1 ≤ R.frames ∧ 8 + (maxL + 11) + rm.locals ≤ R.locals ∧ (∀ w ∈ ws, ∀ (a' : Array Value) (U : State), s.WarmedH U.vm → w.before a' U = true) ∧ Cond.codeWith y bytes maxL ret hh ∈ ws) ∧
  (Cond.codeWith y bytes maxL ret hh).before args s = true ∧ (Cond.initialized y.cls).before args s = true ∧ (y.cls ≠ "java/lang/invoke/MethodHandle" ∧ y.cls ≠ "java/lang/invoke/VarHandle") ∧
  (∀ sig, parseMethodDescriptor y.desc = some sig → n = sig.parameters.length) ∧ (Cond.methodLink own index y).before args s = true ∧ (Cond.static y).before args s = true
theorem vx_cwSW {own : String} {index maxL mc ms : Nat} {y : MethodName} {bytes : ByteArray} {ret : Option FieldType} {hh : List (Nat × Nat × Nat × Nat)} {Ts ws ws' : List Cond} {rm : Room} (n : Nat) (ht : ∀ w ∈ Ts, w.before args s = true) (hT : GoodIn Ts (va_wsS own index y ws)) (hw : ws = Cond.codeWith y bytes maxL ret hh :: ws') (hrc : rm.cells = mc) (hrs : rm.slots = ms)
    (hd : y.cls ≠ "java/lang/invoke/MethodHandle" ∧ y.cls ≠ "java/lang/invoke/VarHandle" ∧ (parseMethodDescriptor y.desc).map (fun d => d.parameters.length) = some n) (hR : rm.frames + 1 ≤ R.frames ∧ 8 + (maxL + 11) + rm.locals ≤ R.locals) :
    vx_CSW R s args own index y bytes maxL ret hh ws rm mc ms n := by
  have ok : ∀ w ∈ va_wsS own index y ws, w.before args s = true := fun w h => ht w (hT w h).1
  have hG : GoodIn Ts ws := fun w h => hT w (by unfold va_wsS; exact List.mem_append_right _ h)
  have hc : Cond.codeWith y bytes maxL ret hh ∈ ws := by rw [hw]; exact List.mem_cons_self
  refine ⟨⟨hrc, hrs, hR.1, hR.2, pay_in ht hG, hc⟩, ht _ (hG _ hc).1, ok _ (by simp [va_wsS]), ⟨hd.1, hd.2.1⟩, fun sig h => ?_, ok _ (by simp [va_wsS]), ok _ (by simp [va_wsS])⟩
  have h2 := hd.2.2
  rw [h] at h2
  exact (Option.some.inj h2).symm
theorem vx_callSW (X : Stand p l e R s m args below meth c T locs cells slots) (hexec : p.tables.exec = Jvm.exec) {own : String} {index : Nat} {y : MethodName} {bytes : ByteArray} {maxL : Nat} {ret : Option FieldType} {hh : List (Nat × Nat × Nat × Nat)}
    (hown : s.vm.findClass own = some m.cls) (hlink : (Cond.methodLink own index y).before args s = true) (hstat : (Cond.static y).before args s = true) (hinit : (Cond.initialized y.cls).before args s = true)
    (hcode : (Cond.codeWith y bytes maxL ret hh).before args s = true) (hy : y.cls ≠ "java/lang/invoke/MethodHandle" ∧ y.cls ≠ "java/lang/invoke/VarHandle")
    {W9 : Nat} {Pre : Pt → Array Value → Prop} {Post : Pt → Array Value → Option Value → Pt → Prop} (hK : Back l R p e below s args y 3 W9 Pre Post)
    {g : JFrame} (hg : g.method = m) (hsize : g.locals.size = c.maxLocals) {argsL rest : List Value} (hlen : ∀ sig, parseMethodDescriptor y.desc = some sig → argsL.length = sig.parameters.length)
    (hstack : g.stack = argsL.reverse ++ rest) (hW : 2 * g.monitorRoom + (rest.map fun v => v.category).sum ≤ W9) (hdg : decode c.code g.pc = .ok (.invokestatic index, 3))
    (hpre : ∀ vm₁, s.WarmedH vm₁ → Pre ⟨T.setVm vm₁, locs, cells, slots⟩ argsL.toArray) :
    ∃ (v : Option Value) (vm₁ : Vm) (B : Pt), s.WarmedH vm₁ ∧ Stand p l e R s m args below meth c B.U B.locs B.cells B.slots ∧ Post ⟨T.setVm vm₁, locs, cells, slots⟩ argsL.toArray v B ∧
      ∀ target, Steps p.tables e below (B.U.setTop { g with pc := g.pc + 3, stack := v.toList ++ rest }) target → Steps p.tables e below (T.setTop g) target := by
  obtain ⟨mk, methM, cM, hnamed, hmethM, -, -, -, -, -, -, hsigM⟩ := Cond.codeWith_spec hcode
  have hstatic : methM.isStatic = true := Cond.static_spec hnamed hmethM hstat
  obtain ⟨kP, hkP, -⟩ := className_of_methodNamed hnamed
  have hinitP : kP.init = .initialized := Cond.initialized_spec (findClass_of_methodNamed hnamed) hkP hinit
  obtain ⟨vm₁, X₁, hstep₁⟩ := X.invokestatic hexec hown hlink hnamed hmethM hstatic hkP hinitP hy (g := g) hg (argsL := argsL) (rest := rest) (hlen _ hsigM) hstack hdg
  obtain ⟨v, B, X', hpost, hsteps⟩ := hK m meth c ⟨T.setVm vm₁, locs, cells, slots⟩ { g with stack := rest } (.invokestatic index) mk argsL.toArray X₁ hg hsize hdg hW (X₁.named hnamed) (hpre vm₁ X₁.warmed)
  exact ⟨v, vm₁, B, X₁.warmed, X', hpost, fun target h => hstep₁ _ fun acts => by rw [doInvoke_state]; exact hsteps.trans h⟩
theorem vx_runSW {y : MethodName} {bytes cc : ByteArray} {maxL nL mc ms n index : Nat} {ret : Option FieldType} {hh : List (Nat × Nat × Nat × Nat)} {ws : List Cond} {rm : Room} {Pc : Array Value → State → Prop} {Qc : Array Value → State → Outcome → State → Prop} {free : Addr → Prop} {Ts : List Cond} {own : String} {As rest : List Value} {g : JFrame}
    (S : CallFix p m c cc nL s args Ts own) (hM : Met l y ws rm Pc Qc mc ms free) (cw : vx_CSW R s args own index y bytes maxL ret hh ws rm mc ms n) (hp : PreS s H Pc As)
    (hg : g.method = m) (hn : As.length = n) (hsize : g.locals.size = nL) (hstack : g.stack = As.reverse ++ rest) (hW : 2 * g.monitorRoom + (rest.map fun v => v.category).sum ≤ 8) (hdg : decode cc g.pc = .ok (.invokestatic index, 3)) (hf : cells + mc ≤ R.cells ∧ slots + ms ≤ R.slots) :
    va_Run p l e R s m args below meth c H locs cells slots mc ms g rest (Qc As.toArray) (free) := by
  obtain ⟨⟨hrc, hrs, hfr, hlo, hws, hcw⟩, hcode, hini, hy, hlen, hl, hstt⟩ := cw
  have hK : Back l R p e below s args y 3 8 (PreOf R mc ms Pc) (PostOf Qc mc ms free) := va_backW (hh := hh) (bytes := bytes) (maxL := maxL) (ret := ret) hM hp.1 hrc hrs hfr hlo hws hcw (fun a' U hW => word_at hW (Or.inl (by first | rfl | simp [Cond.onTables, Cond.keeps, Cond.steady])) hini)
  obtain ⟨hx, hb, hml, ho, -⟩ := S
  intro T hT X
  obtain ⟨v, vm₁, ⟨U', l2, c2, s2⟩, hW₁, X', ⟨g', mk, t, L, e1, e2, hq, h1, hL, h2, h3⟩, st⟩ := vx_callSW X hx (hh := hh) (bytes := bytes) (maxL := maxL) (ret := ret) ho hl hstt hini hcode hy hK hg (hsize.trans hml.symm) (argsL := As) (rest := rest) (fun sig h => hn.trans (hlen sig h)) hstack hW (by rw [hb]; exact hdg)
    (fun vm₁ hW₁ => ⟨hf.1, hf.2, hp.2 (T.setVm vm₁) hT hW₁⟩)
  dsimp only [Pt.U, Pt.locs, Pt.cells, Pt.slots] at X' e1 e2 h1 h2 h3 st
  subst h1; subst h2; subst h3
  exact ⟨v, (T.setVm vm₁).calling g' mk As.toArray, t, U', L, hT, X', hL, e1, e2, hq, st⟩
/-- not caught here, past rows that name other classes: it goes on to the caller -/
theorem vx_outP {p : Program} {l : Launch} {e : Env} {R : Room} {s : State} {m : MethodId} {args : Array Value} {below : List Frame} {meth : Method} {c : Code} {H : Heap} {locs : List Loc} {cells slots : Nat} {free : Addr → Prop} {ls : Array Slot} {rest : List Value} {Qc : Array Value → State → Outcome → State → Prop} {XC : String → State → State → Prop}
    {pc : Nat} {own E : String} {ce : Cell} {q : Addr} {mc ms : Nat} (hown : s.vm.findClass own = some m.cls) (hlocks : meth.locks = false)
    (hpass : ∀ z ∈ c.exceptionTable.toList, covers z pc = false ∨ (z.catchType ≠ 0 ∧ ∃ nm : String, (Cond.classLink own z.catchType nm).before args s = true ∧ va_Nc E nm s)) (hcell : H[q]? = some ce) (hv : ce.vm = .none) (hcl : s.vm.findClass E = some ce.cls)
    (hx : ∀ t : State, t.heap = H → s.vm.Alike t.vm → XC E s t) (hf : ∀ z ∈ locs, free z.base) (hc : cells ≤ mc) (hs : slots ≤ ms) :
    vx_W p l e R s m args below meth c H locs cells slots (vx_MQ below Qc XC args s mc ms free) (F0 m pc ls rest) q := by
  intro T hT X
  have hpl : e.platform.magicAccessors = ({} : Platform).magicAccessors := by rw [X.admits.platform]
  obtain ⟨vm', hW', X', st⟩ := X.outThrough hlocks q (g := F0 m pc ls rest) rfl rfl rfl (cell := ce) (by rw [hT]; exact hcell) (by rw [hv]; rfl)
    (by obtain ⟨k9, h9, -⟩ := Vm.findClass_spec hcl; exact ⟨k9, h9⟩) (fun z hz => by
      rcases hpass z hz with h | ⟨hz0, nm, hl1, hn1⟩
      · exact Or.inl h
      · obtain ⟨c6, hc6, hcl6⟩ := Cond.classLink_spec hown hl1 e.platform hpl
        obtain ⟨a8, b8, h1, h2, h3⟩ := hn1
        cases Option.some.inj (h1.symm.trans hcl)
        cases Option.some.inj (h2.symm.trans hc6)
        exact Or.inr ⟨hz0, _, hcl6, h3⟩)
  obtain ⟨g₀, hfr⟩ := X'.frames_eq
  have hcell9 : ((T.setVm vm').setFrames (.throwing q :: below)).heap[q]? = some ce := by
    show T.heap[q]? = some ce
    rw [hT]; exact hcell
  have hend : Ended ((T.setVm vm').setFrames (.throwing q :: below)) below (.threw q) := State.frames_setFrames _ (State.cur_lt_of_frames hfr)
  refine ⟨(T.setVm vm').setFrames (.throwing q :: below), ?_, .threw q, X'.here.running, hend, Or.inr ⟨q, rfl, E, ce, locs, hx _ hT (X'.ends _).1.alike, hcell9, hv, hcl, (X'.ends _).1, (X'.ends _).2.mono hc hs, hf⟩⟩
  rw [X.pushThrowing_eq]
  exact st
/-- a thing of a world lies in the heap -/
theorem vx_lt {D : va_G} {cl : List vw_C} {ws : va_W} {H1 : Heap} (h : va_P D cl ws H1) {k : Nat} {q : Nat × va_E} (hk : ws[k]? = some q) : q.1 < H1.size := (h k q hk).lt
end VXS
/-! ===== END ===== -/
/-! ===== BEGIN methods with a table of their own: called by a name, returning or throwing ===== -/
section VXH
/-! vx_backW, vx_callVX, vx_callSX, vx_callVW, vx_runVW, vx_runVX, vx_runSX, vx_ofWH follow the same proofs as their sisters above (Free/Laws.lean, Shelf42/LK1.lean); vx_outP calls Shelf42/NT130.lean (outThrough). -/
section
variable {l : Launch} {R : Room} {p : Program} {e : Env} {below : List Frame} {s : State} {sargs : Array Value} {y : MethodName} {len W9 : Nat}
theorem vx_backW {ws : List Cond} {rm : Room} {Pc : Array Value → State → Prop} {Qc : Array Value → State → Outcome → State → Prop} {XC : String → State → State → Prop} {mc ms : Nat} {free : Addr → Prop} {bytes : ByteArray} {maxL : Nat} {ret : Option FieldType} {hh : List (Nat × Nat × Nat × Nat)}
    (hM : vx_Met l y ws rm Pc Qc XC mc ms free) (hblind : FrameBlind Pc) (hrc : rm.cells = mc) (hrs : rm.slots = ms)
    (hframes : rm.frames + 1 ≤ R.frames) (hlocals : W9 + (maxL + 11) + rm.locals ≤ R.locals)
    (hws : ∀ w ∈ ws, ∀ a' U, s.WarmedH U.vm → w.before a' U = true) (hcode : Cond.codeWith y bytes maxL ret hh ∈ ws) (hinit : ∀ a' U, s.WarmedH U.vm → (Cond.initialized y.cls).before a' U = true) :
    vx_Back l R p e below s sargs y len W9 (PreOf R mc ms Pc) (PostOf Qc mc ms free) (vx_Post XC mc ms free) := by
  intro m meth c A g ig mk a X hg hsize hdg hW hn hp
  have h1 : (headSpec ws rm).pre.before a A.U = true := atoms_intro fun w hw => hws w hw _ _ X.warmed
  have h2 : (Cond.codeWith y bytes maxL ret hh).before a A.U = true := hws _ hcode _ _ X.warmed
  have h3 : (Cond.initialized y.cls).before a A.U = true := hinit _ _ X.warmed
  have h4 : A.cells + (headSpec ws rm).room.cells ≤ R.cells := by rw [show (headSpec ws rm).room.cells = mc from hrc]; exact hp.1
  have h5 : A.slots + (headSpec ws rm).room.slots ≤ R.slots := by rw [show (headSpec ws rm).room.slots = ms from hrs]; exact hp.2.1
  have hPc : Pc a (A.U.calling g mk a) := hblind _ _ _ _ hp.2.2
  obtain ⟨U, Ls, c0, s0⟩ := A
  dsimp only [Pt.U, Pt.locs, Pt.cells, Pt.slots] at h1 h2 h3 h4 h5 X hn hPc ⊢
  obtain ⟨m9, methY, cY, hn9, hmY, hcY, -, hlY, -⟩ := Cond.codeWith_spec h2
  cases Option.some.inj (hn9.symm.trans hn)
  obtain ⟨kY, hkY, -⟩ := className_of_methodNamed hn
  have hinitY : kY.init = .initialized := Cond.initialized_spec (findClass_of_methodNamed hn) hkY h3
  have h : At U g.method c below := by rw [hg]; exact X.here
  have hlocals9 : W9 + (maxL + 11) + (headSpec ws rm).room.locals ≤ R.locals := hlocals
  have happ : (headSpec ws rm).appliesLoose y e.platform (U.calling g mk a) = true :=
    Spec.appliesLoose_calling (g := g) h hdg hn hkY hinitY
      (X.room_calling (g := g) (R' := (headSpec ws rm).room) hsize hmY hcY hframes (by rw [hlY]; omega) h4 h5) h1
  obtain ⟨mid, hmid⟩ := h.above
  have hfr : (U.setTop g).frames = (.java g :: mid) ++ below := by rw [State.frames_setTop' g h.top, hmid]; rfl
  obtain ⟨o, s₂, hsteps, -, hend, hq⟩ := Steps.callFree hM p X.admits X.cas X.clock (acts := []) hfr happ hPc trivial
  have hq' : vx_Q Qc XC mc ms free a (U.calling g mk a) o s₂ := hq
  rw [State.frames_setTop' g h.top] at hend
  obtain ⟨g₀, hg0⟩ := Option.isSome_iff_exists.mp h.top
  obtain ⟨r, hr⟩ := State.topJava?_eq_some.mp hg0
  have hr' : (({ U with heap := s₂.heap, slotsUsed := s₂.slotsUsed } : State).setVm s₂.vm).frames = .java g₀ :: r := hr
  rcases hq' with ⟨hqc, L, hfe, hL⟩ | ⟨q, rfl, E, ce, L, hx, hce, hcv, hcl, hW₂, hsm, hL⟩
  · obtain ⟨⟨v, rfl⟩, hW₂, e2, q2, q3, q4, q5, q6⟩ := id hfe
    have e3 : s₂ = ({ (U.calling g mk a).setFrames s₂.frames with heap := s₂.heap, slotsUsed := s₂.slotsUsed } : State).setVm s₂.vm := by
      have : s₂ = ({ s₂ with vm := (U.calling g mk a).vm } : State).setVm s₂.vm := rfl
      rw [e2] at this
      exact this
    obtain ⟨c₂, i₂, len₂, hc₂, hd₂, hf₂⟩ := hend
    have hW' : U.WarmedH s₂.vm := hW₂
    have hcc : c₂ = c := by
      have h1 : s₂.code? g.method = U.code? g.method := by
        rw [State.code?_eq, State.code?_eq, hW'.alike.method?]
      exact Option.some.inj (hc₂.symm.trans (h1.trans h.code))
    subst hcc
    have hlen : len₂ = len := by rw [hdg] at hd₂; cases hd₂; rfl
    subst hlen
    have hs₂ : s₂ = (({ U with heap := s₂.heap, slotsUsed := s₂.slotsUsed } : State).setVm s₂.vm).setTop { g with pc := g.pc + len₂, stack := v.toList ++ g.stack } := by
      refine e3.trans ?_
      rw [hf₂, State.calling_eq h.top, State.setFrames_setFrames, State.setTop_of_frames _ hr', hr]
      rfl
    have hsame : U.sameButNew ({ U with heap := s₂.heap, slotsUsed := s₂.slotsUsed } : State) L mc ms := by
      refine ⟨?_, q2, q3, q4, q5, q6⟩
      obtain ⟨t, ht, -⟩ := State.frames_cons hr
      show ({ U with heap := s₂.heap, slotsUsed := s₂.slotsUsed } : State) = { U.setFrames U.frames with heap := s₂.heap, slotsUsed := s₂.slotsUsed }
      rw [State.setFrames_self ht]
    subst hg
    refine Or.inl ⟨v, ⟨(({ U with heap := s₂.heap, slotsUsed := s₂.slotsUsed } : State).setVm s₂.vm), Ls ++ L, c0 + mc, s0 + ms⟩,
      ⟨X.admits, X.cas, X.clock, X.frames, X.room, X.hears, X.method, X.code, (X.here.setHeapUsed s₂.heap s₂.slotsUsed).setVm hW'.alike, X.tail, State.WarmedH.trans X.warmed hW', X.limits, X.bytes, X.same.trans (hsame.setVm s.vm)⟩,
      ⟨g, mk, s₂, L, rfl, rfl, hqc, rfl, hL, rfl, rfl⟩, ?_⟩
    show Steps p.tables e below _ ((({ U with heap := s₂.heap, slotsUsed := s₂.slotsUsed } : State).setVm s₂.vm).setTop { g with pc := g.pc + len₂, stack := v.toList ++ g.stack })
    rw [← hs₂]
    exact hsteps
  · obtain ⟨e2, q2, q3, q4, q5, q6⟩ := id hsm
    have e3 : s₂ = ({ (U.calling g mk a).setFrames s₂.frames with heap := s₂.heap, slotsUsed := s₂.slotsUsed } : State).setVm s₂.vm := by
      have : s₂ = ({ s₂ with vm := (U.calling g mk a).vm } : State).setVm s₂.vm := rfl
      rw [e2] at this
      exact this
    have hf₂ : s₂.frames = .throwing q :: .java g :: U.frames.tail := hend
    have hW' : U.WarmedH s₂.vm := hW₂
    have hs₂ : s₂ = ((({ U with heap := s₂.heap, slotsUsed := s₂.slotsUsed } : State).setVm s₂.vm).setTop g).pushFrame (.throwing q) := by
      refine e3.trans ?_
      rw [hf₂, State.calling_eq h.top, State.setFrames_setFrames, State.pushFrame, State.frames_setTop _ hr', State.setTop_of_frames _ hr', State.setFrames_setFrames, hr]
      rfl
    have hsame : U.sameButNew ({ U with heap := s₂.heap, slotsUsed := s₂.slotsUsed } : State) L mc ms := by
      refine ⟨?_, q2, q3, q4, q5, q6⟩
      obtain ⟨t, ht, -⟩ := State.frames_cons hr
      show ({ U with heap := s₂.heap, slotsUsed := s₂.slotsUsed } : State) = { U.setFrames U.frames with heap := s₂.heap, slotsUsed := s₂.slotsUsed }
      rw [State.setFrames_self ht]
    subst hg
    refine Or.inr ⟨q, ⟨(({ U with heap := s₂.heap, slotsUsed := s₂.slotsUsed } : State).setVm s₂.vm), Ls ++ L, c0 + mc, s0 + ms⟩,
      ⟨X.admits, X.cas, X.clock, X.frames, X.room, X.hears, X.method, X.code, (X.here.setHeapUsed s₂.heap s₂.slotsUsed).setVm hW'.alike, X.tail, State.WarmedH.trans X.warmed hW', X.limits, X.bytes, X.same.trans (hsame.setVm s.vm)⟩,
      ⟨g, mk, s₂, L, E, ce, rfl, rfl, hx, hce, hcv, hcl, rfl, hL, rfl, rfl⟩, ?_⟩
    show Steps p.tables e below _ (((({ U with heap := s₂.heap, slotsUsed := s₂.slotsUsed } : State).setVm s₂.vm).setTop g).pushFrame (.throwing q))
    rw [← hs₂]
    exact hsteps
end
variable {p : Program} {l : Launch} {e : Env} {R : Room} {s : State} {m : MethodId} {args : Array Value} {below : List Frame} {meth : Method} {c : Code} {T : State} {H : Heap} {locs : List Loc} {cells slots : Nat}
theorem vx_callVX (X : Stand p l e R s m args below meth c T locs cells slots) (hexec : p.tables.exec = Jvm.exec) {own C : String} {index : Nat} {y : MethodName} {bytes : ByteArray} {maxL : Nat} {ret : Option FieldType} {hh : List (Nat × Nat × Nat × Nat)}
    (hown : s.vm.findClass own = some m.cls) (hlink : (Cond.methodLink own index y).before args s = true) (hinst : (Cond.instanceMethod y).before args s = true) (hsel : (Cond.selects C y y).before args s = true)
    (hcode : (Cond.codeWith y bytes maxL ret hh).before args s = true) (hy : y.cls ≠ "java/lang/invoke/MethodHandle" ∧ y.cls ≠ "java/lang/invoke/VarHandle")
    {W9 : Nat} {Pre : Pt → Array Value → Prop} {Post : Pt → Array Value → Option Value → Pt → Prop} {PostX : Pt → Array Value → Addr → Pt → Prop} (hK : vx_Back l R p e below s args y 3 W9 Pre Post PostX)
    {b : Addr} {cellB : Cell} (hcell : T.heap[b]? = some cellB) (hobj : cellB.vm.isStatics = false) (hcls : s.vm.findClass C = some cellB.cls)
    {g : JFrame} (hg : g.method = m) (hsize : g.locals.size = c.maxLocals) {argsL rest : List Value} (hlen : ∀ sig, parseMethodDescriptor y.desc = some sig → argsL.length = sig.parameters.length)
    (hstack : g.stack = argsL.reverse ++ .ref b :: rest) (hW : 2 * g.monitorRoom + (rest.map fun v => v.category).sum ≤ W9) (hdg : decode c.code g.pc = .ok (.invokevirtual index, 3))
    (hpre : ∀ vm₁, s.WarmedH vm₁ → Pre ⟨T.setVm vm₁, locs, cells, slots⟩ (Value.ref b :: argsL).toArray) :
    (∃ (v : Option Value) (vm₁ : Vm) (B : Pt), s.WarmedH vm₁ ∧ Stand p l e R s m args below meth c B.U B.locs B.cells B.slots ∧ Post ⟨T.setVm vm₁, locs, cells, slots⟩ (Value.ref b :: argsL).toArray v B ∧
      ∀ target, Steps p.tables e below (B.U.setTop { g with pc := g.pc + 3, stack := v.toList ++ rest }) target → Steps p.tables e below (T.setTop g) target) ∨
    (∃ (q : Addr) (vm₁ : Vm) (B : Pt), s.WarmedH vm₁ ∧ Stand p l e R s m args below meth c B.U B.locs B.cells B.slots ∧ PostX ⟨T.setVm vm₁, locs, cells, slots⟩ (Value.ref b :: argsL).toArray q B ∧
      Steps p.tables e below (T.setTop g) ((B.U.setTop { g with stack := rest }).pushFrame (.throwing q))) := by
  obtain ⟨mk, methM, hnamed, hmethM, hstM, habM⟩ := Cond.instanceMethod_spec hinst
  obtain ⟨m8, methM', cM, hn8, hmethM', -, -, -, -, -, -, hsigM⟩ := Cond.codeWith_spec hcode
  cases Option.some.inj (hn8.symm.trans hnamed)
  cases hmethM.symm.trans hmethM'
  obtain ⟨c2, r2, m2, q1, q2, q3, q4, kP, hkP, hkPi⟩ := Cond.selects_spec hsel
  cases hcls.symm.trans q1
  cases (State.methodFound?_of_named hnamed hy).symm.trans q2
  cases hnamed.symm.trans q3
  have hselP : selectMethod e.platform s.vm cellB.cls mk = .method mk := by rw [Launch.admits_selectMethod X.admits]; exact q4
  obtain ⟨vm₁, X₁, hstep₁⟩ := X.invokevirtual hexec hown hlink hnamed hmethM hstM hkP hkPi hy (a := b) (cell := cellB) hcell
    (fun z h => by rw [h] at hobj; cases hobj) hselP hmethM habM hkP hkPi (g := g) hg (argsL := argsL) (rest := rest) (hlen _ hsigM) hstack hdg
  rcases hK m meth c ⟨T.setVm vm₁, locs, cells, slots⟩ { g with stack := rest } (.invokevirtual index) mk (Value.ref b :: argsL).toArray X₁ hg hsize hdg hW (X₁.named hnamed) (hpre vm₁ X₁.warmed) with ⟨v, B, X', hpost, hsteps⟩ | ⟨q, B, X', hpost, hsteps⟩
  · exact Or.inl ⟨v, vm₁, B, X₁.warmed, X', hpost, fun target h => hstep₁ _ fun acts => by rw [doInvoke_state]; exact hsteps.trans h⟩
  · exact Or.inr ⟨q, vm₁, B, X₁.warmed, X', hpost, hstep₁ _ fun acts => by rw [doInvoke_state]; exact hsteps⟩
theorem vx_callSX (X : Stand p l e R s m args below meth c T locs cells slots) (hexec : p.tables.exec = Jvm.exec) {own : String} {index : Nat} {y : MethodName} {bytes : ByteArray} {maxL : Nat} {ret : Option FieldType} {hh : List (Nat × Nat × Nat × Nat)}
    (hown : s.vm.findClass own = some m.cls) (hlink : (Cond.methodLink own index y).before args s = true) (hstat : (Cond.static y).before args s = true) (hinit : (Cond.initialized y.cls).before args s = true)
    (hcode : (Cond.codeWith y bytes maxL ret hh).before args s = true) (hy : y.cls ≠ "java/lang/invoke/MethodHandle" ∧ y.cls ≠ "java/lang/invoke/VarHandle")
    {W9 : Nat} {Pre : Pt → Array Value → Prop} {Post : Pt → Array Value → Option Value → Pt → Prop} {PostX : Pt → Array Value → Addr → Pt → Prop} (hK : vx_Back l R p e below s args y 3 W9 Pre Post PostX)
    {g : JFrame} (hg : g.method = m) (hsize : g.locals.size = c.maxLocals) {argsL rest : List Value} (hlen : ∀ sig, parseMethodDescriptor y.desc = some sig → argsL.length = sig.parameters.length)
    (hstack : g.stack = argsL.reverse ++ rest) (hW : 2 * g.monitorRoom + (rest.map fun v => v.category).sum ≤ W9) (hdg : decode c.code g.pc = .ok (.invokestatic index, 3))
    (hpre : ∀ vm₁, s.WarmedH vm₁ → Pre ⟨T.setVm vm₁, locs, cells, slots⟩ argsL.toArray) :
    (∃ (v : Option Value) (vm₁ : Vm) (B : Pt), s.WarmedH vm₁ ∧ Stand p l e R s m args below meth c B.U B.locs B.cells B.slots ∧ Post ⟨T.setVm vm₁, locs, cells, slots⟩ argsL.toArray v B ∧
      ∀ target, Steps p.tables e below (B.U.setTop { g with pc := g.pc + 3, stack := v.toList ++ rest }) target → Steps p.tables e below (T.setTop g) target) ∨
    (∃ (q : Addr) (vm₁ : Vm) (B : Pt), s.WarmedH vm₁ ∧ Stand p l e R s m args below meth c B.U B.locs B.cells B.slots ∧ PostX ⟨T.setVm vm₁, locs, cells, slots⟩ argsL.toArray q B ∧
      Steps p.tables e below (T.setTop g) ((B.U.setTop { g with stack := rest }).pushFrame (.throwing q))) := by
  obtain ⟨mk, methM, cM, hnamed, hmethM, -, -, -, -, -, -, hsigM⟩ := Cond.codeWith_spec hcode
  have hstatic : methM.isStatic = true := Cond.static_spec hnamed hmethM hstat
  obtain ⟨kP, hkP, -⟩ := className_of_methodNamed hnamed
  have hinitP : kP.init = .initialized := Cond.initialized_spec (findClass_of_methodNamed hnamed) hkP hinit
  obtain ⟨vm₁, X₁, hstep₁⟩ := X.invokestatic hexec hown hlink hnamed hmethM hstatic hkP hinitP hy (g := g) hg (argsL := argsL) (rest := rest) (hlen _ hsigM) hstack hdg
  rcases hK m meth c ⟨T.setVm vm₁, locs, cells, slots⟩ { g with stack := rest } (.invokestatic index) mk argsL.toArray X₁ hg hsize hdg hW (X₁.named hnamed) (hpre vm₁ X₁.warmed) with ⟨v, B, X', hpost, hsteps⟩ | ⟨q, B, X', hpost, hsteps⟩
  · exact Or.inl ⟨v, vm₁, B, X₁.warmed, X', hpost, fun target h => hstep₁ _ fun acts => by rw [doInvoke_state]; exact hsteps.trans h⟩
  · exact Or.inr ⟨q, vm₁, B, X₁.warmed, X', hpost, hstep₁ _ fun acts => by rw [doInvoke_state]; exact hsteps⟩
theorem vx_callVW (X : Stand p l e R s m args below meth c T locs cells slots) (hexec : p.tables.exec = Jvm.exec) {own C : String} {index : Nat} {y : MethodName} {bytes : ByteArray} {maxL : Nat} {ret : Option FieldType} {hh : List (Nat × Nat × Nat × Nat)}
    (hown : s.vm.findClass own = some m.cls) (hlink : (Cond.methodLink own index y).before args s = true) (hinst : (Cond.instanceMethod y).before args s = true) (hsel : (Cond.selects C y y).before args s = true)
    (hcode : (Cond.codeWith y bytes maxL ret hh).before args s = true) (hy : y.cls ≠ "java/lang/invoke/MethodHandle" ∧ y.cls ≠ "java/lang/invoke/VarHandle")
    {W9 : Nat} {Pre : Pt → Array Value → Prop} {Post : Pt → Array Value → Option Value → Pt → Prop} (hK : Back l R p e below s args y 3 W9 Pre Post)
    {b : Addr} {cellB : Cell} (hcell : T.heap[b]? = some cellB) (hobj : cellB.vm.isStatics = false) (hcls : s.vm.findClass C = some cellB.cls)
    {g : JFrame} (hg : g.method = m) (hsize : g.locals.size = c.maxLocals) {argsL rest : List Value} (hlen : ∀ sig, parseMethodDescriptor y.desc = some sig → argsL.length = sig.parameters.length)
    (hstack : g.stack = argsL.reverse ++ .ref b :: rest) (hW : 2 * g.monitorRoom + (rest.map fun v => v.category).sum ≤ W9) (hdg : decode c.code g.pc = .ok (.invokevirtual index, 3))
    (hpre : ∀ vm₁, s.WarmedH vm₁ → Pre ⟨T.setVm vm₁, locs, cells, slots⟩ (Value.ref b :: argsL).toArray) :
    ∃ (v : Option Value) (vm₁ : Vm) (B : Pt), s.WarmedH vm₁ ∧ Stand p l e R s m args below meth c B.U B.locs B.cells B.slots ∧ Post ⟨T.setVm vm₁, locs, cells, slots⟩ (Value.ref b :: argsL).toArray v B ∧
      ∀ target, Steps p.tables e below (B.U.setTop { g with pc := g.pc + 3, stack := v.toList ++ rest }) target → Steps p.tables e below (T.setTop g) target := by
  obtain ⟨mk, methM, hnamed, hmethM, hstM, habM⟩ := Cond.instanceMethod_spec hinst
  obtain ⟨m8, methM', cM, hn8, hmethM', -, -, -, -, -, -, hsigM⟩ := Cond.codeWith_spec hcode
  cases Option.some.inj (hn8.symm.trans hnamed)
  cases hmethM.symm.trans hmethM'
  obtain ⟨c2, r2, m2, q1, q2, q3, q4, kP, hkP, hkPi⟩ := Cond.selects_spec hsel
  cases hcls.symm.trans q1
  cases (State.methodFound?_of_named hnamed hy).symm.trans q2
  cases hnamed.symm.trans q3
  have hselP : selectMethod e.platform s.vm cellB.cls mk = .method mk := by rw [Launch.admits_selectMethod X.admits]; exact q4
  obtain ⟨vm₁, X₁, hstep₁⟩ := X.invokevirtual hexec hown hlink hnamed hmethM hstM hkP hkPi hy (a := b) (cell := cellB) hcell
    (fun z h => by rw [h] at hobj; cases hobj) hselP hmethM habM hkP hkPi (g := g) hg (argsL := argsL) (rest := rest) (hlen _ hsigM) hstack hdg
  obtain ⟨v, B, X', hpost, hsteps⟩ := hK m meth c ⟨T.setVm vm₁, locs, cells, slots⟩ { g with stack := rest } (.invokevirtual index) mk (Value.ref b :: argsL).toArray X₁ hg hsize hdg hW (X₁.named hnamed) (hpre vm₁ X₁.warmed)
  exact ⟨v, vm₁, B, X₁.warmed, X', hpost, fun target h => hstep₁ _ fun acts => by rw [doInvoke_state]; exact hsteps.trans h⟩
abbrev vx_CVW (R : Room) (s : State) (args : Array Value) (own C : String) (index : Nat) (y : MethodName) (bytes : ByteArray) (maxL : Nat) (ret : Option FieldType) (hh : List (Nat × Nat × Nat × Nat)) (ws : List Cond) (rm : Room) (mc ms n : Nat) : Prop :=
  (rm.cells = mc ∧ rm.slots = ms ∧ rm.frames + 1 ≤ R.frames ∧ 8 + (maxL + 11) + rm.locals ≤ R.locals ∧ (∀ w ∈ ws, ∀ (a' : Array Value) (U : State), s.WarmedH U.vm → w.before a' U = true) ∧ Cond.codeWith y bytes maxL ret hh ∈ ws) ∧
  (Cond.codeWith y bytes maxL ret hh).before args s = true ∧ (Cond.initialized y.cls).before args s = true ∧ (y.cls ≠ "java/lang/invoke/MethodHandle" ∧ y.cls ≠ "java/lang/invoke/VarHandle") ∧
  (∀ sig, parseMethodDescriptor y.desc = some sig → n = sig.parameters.length) ∧ (Cond.methodLink own index y).before args s = true ∧ (Cond.instanceMethod y).before args s = true ∧ (Cond.selects C y y).before args s = true
theorem vx_cwVW {own C : String} {index maxL mc ms : Nat} {y : MethodName} {bytes : ByteArray} {ret : Option FieldType} {hh : List (Nat × Nat × Nat × Nat)} {Ts ws ws' : List Cond} {rm : Room} (n : Nat) (ht : ∀ w ∈ Ts, w.before args s = true) (hT : GoodIn Ts (wsV own index C y ws)) (hw : ws = Cond.codeWith y bytes maxL ret hh :: ws') (hrc : rm.cells = mc) (hrs : rm.slots = ms)
    (hd : y.cls = C ∧ y.cls ≠ "java/lang/invoke/MethodHandle" ∧ y.cls ≠ "java/lang/invoke/VarHandle" ∧ (parseMethodDescriptor y.desc).map (fun d => d.parameters.length) = some n) (hR : rm.frames + 1 ≤ R.frames ∧ 8 + (maxL + 11) + rm.locals ≤ R.locals) :
    vx_CVW R s args own C index y bytes maxL ret hh ws rm mc ms n := by
  obtain ⟨hC, hd⟩ := hd
  subst hC
  have ok : ∀ w ∈ wsV own index y.cls y ws, w.before args s = true := fun w h => ht w (hT w h).1
  have hG : GoodIn Ts ws := fun w h => hT w (by unfold wsV; exact List.mem_append_right _ h)
  have hc : Cond.codeWith y bytes maxL ret hh ∈ ws := by rw [hw]; exact List.mem_cons_self
  refine ⟨⟨hrc, hrs, hR.1, hR.2, pay_in ht hG, hc⟩, ht _ (hG _ hc).1, ok _ (by simp [wsV]), ⟨hd.1, hd.2.1⟩, fun sig h => ?_, ok _ (by simp [wsV]), ok _ (by simp [wsV]), ok _ (by simp [wsV])⟩
  have h2 := hd.2.2
  rw [h] at h2
  exact (Option.some.inj h2).symm
theorem vx_runVW {y : MethodName} {bytes cc : ByteArray} {maxL nL mc ms n index : Nat} {ret : Option FieldType} {hh : List (Nat × Nat × Nat × Nat)} {ws : List Cond} {rm : Room} {Pc : Array Value → State → Prop} {Qc : Array Value → State → Outcome → State → Prop} {free : Addr → Prop} {Ts : List Cond} {own C : String} {b : Addr} {As rest : List Value} {g : JFrame}
    (S : CallFix p m c cc nL s args Ts own) (hM : Met l y ws rm Pc Qc mc ms free) (cw : vx_CVW R s args own C index y bytes maxL ret hh ws rm mc ms n) (hp : PreV s H C b Pc As)
    (hg : g.method = m) (hn : As.length = n) (hsize : g.locals.size = nL) (hstack : g.stack = As.reverse ++ .ref b :: rest) (hW : 2 * g.monitorRoom + (rest.map fun v => v.category).sum ≤ 8) (hdg : decode cc g.pc = .ok (.invokevirtual index, 3)) (hf : cells + mc ≤ R.cells ∧ slots + ms ≤ R.slots) :
    va_Run p l e R s m args below meth c H locs cells slots mc ms g rest (Qc (Value.ref b :: As).toArray) free := by
  obtain ⟨⟨hrc, hrs, hfr, hlo, hws, hcw⟩, hcode, hini, hy, hlen, hl, hin, hse⟩ := cw
  have hK : Back l R p e below s args y 3 8 (PreOf R mc ms Pc) (PostOf Qc mc ms free) := va_backW (hh := hh) (bytes := bytes) (maxL := maxL) (ret := ret) hM hp.1 hrc hrs hfr hlo hws hcw (fun a' U hW => word_at hW (Or.inl (by first | rfl | simp [Cond.onTables, Cond.keeps, Cond.steady])) hini)
  obtain ⟨hx, hb, hml, ho, -⟩ := S
  obtain ⟨-, ⟨cellB, hcB, hoB, hclB⟩, hPc⟩ := hp
  intro T hT X
  obtain ⟨v, vm₁, ⟨U', l2, c2, s2⟩, hW₁, X', ⟨g', mk, t, L, e1, e2, hq, h1, hL, h2, h3⟩, st⟩ := vx_callVW X hx (C := C) (hh := hh) (bytes := bytes) (maxL := maxL) (ret := ret) ho hl hin hse hcode hy hK (by rw [hT]; exact hcB) hoB hclB hg (hsize.trans hml.symm) (argsL := As) (rest := rest) (fun sig h => hn.trans (hlen sig h)) hstack hW (by rw [hb]; exact hdg)
    (fun vm₁ hW₁ => ⟨hf.1, hf.2, hPc (T.setVm vm₁) hT hW₁⟩)
  dsimp only [Pt.U, Pt.locs, Pt.cells, Pt.slots] at X' e1 e2 h1 h2 h3 st
  subst h1; subst h2; subst h3
  exact ⟨v, (T.setVm vm₁).calling g' mk (Value.ref b :: As).toArray, t, U', L, hT, X', hL, e1, e2, hq, st⟩
section
variable {y : MethodName} {bytes cc : ByteArray} {maxL nL mc ms n index : Nat} {ret : Option FieldType} {ws : List Cond} {rm : Room} {Pc : Array Value → State → Prop} {Qc : Array Value → State → Outcome → State → Prop} {XC : String → State → State → Prop} {free : Addr → Prop} {Ts : List Cond} {own C : String} {b : Addr} {As rest : List Value} {g : JFrame}
theorem vx_runVX {hh : List (Nat × Nat × Nat × Nat)} (S : CallFix p m c cc nL s args Ts own) (hM : vx_Met l y ws rm Pc Qc XC mc ms free) (cw : vx_CVW R s args own C index y bytes maxL ret hh ws rm mc ms n) (hp : PreV s H C b Pc As)
    (hg : g.method = m) (hn : As.length = n) (hsize : g.locals.size = nL) (hstack : g.stack = As.reverse ++ .ref b :: rest) (hW : 2 * g.monitorRoom + (rest.map fun v => v.category).sum ≤ 8) (hdg : decode cc g.pc = .ok (.invokevirtual index, 3)) (hf : cells + mc ≤ R.cells ∧ slots + ms ≤ R.slots) :
    vx_Run p l e R s m args below meth c H locs cells slots mc ms g rest (Qc (Value.ref b :: As).toArray) XC free := by
  obtain ⟨⟨hrc, hrs, hfr, hlo, hws, hcw⟩, hcode, hini, hy, hlen, hl, hin, hse⟩ := cw
  have hK : vx_Back l R p e below s args y 3 8 (PreOf R mc ms Pc) (PostOf Qc mc ms free) (vx_Post XC mc ms free) := vx_backW (hh := hh) (bytes := bytes) (maxL := maxL) (ret := ret) hM hp.1 hrc hrs hfr hlo hws hcw (fun a' U hW => word_at hW (Or.inl (by first | rfl | simp [Cond.onTables, Cond.keeps, Cond.steady])) hini)
  obtain ⟨hx, hb, hml, ho, -⟩ := S
  obtain ⟨-, ⟨cellB, hcB, hoB, hclB⟩, hPc⟩ := hp
  intro T hT X
  rcases vx_callVX X hx (C := C) (hh := hh) (bytes := bytes) (maxL := maxL) (ret := ret) ho hl hin hse hcode hy hK (by rw [hT]; exact hcB) hoB hclB hg (hsize.trans hml.symm) (argsL := As) (rest := rest) (fun sig h => hn.trans (hlen sig h)) hstack hW (by rw [hb]; exact hdg)
    (fun vm₁ hW₁ => ⟨hf.1, hf.2, hPc (T.setVm vm₁) hT hW₁⟩) with ⟨v, vm₁, ⟨U', l2, c2, s2⟩, hW₁, X', ⟨g', mk, t, L, e1, e2, hq, h1, hL, h2, h3⟩, st⟩ | ⟨q, vm₁, ⟨U', l2, c2, s2⟩, hW₁, X', ⟨g', mk, t, L, E, ce, e1, e2, hq, hce, hcv, hcl, h1, hL, h2, h3⟩, st⟩
  · dsimp only [Pt.U, Pt.locs, Pt.cells, Pt.slots] at X' e1 e2 h1 h2 h3 st
    subst h1; subst h2; subst h3
    exact Or.inl ⟨v, (T.setVm vm₁).calling g' mk (Value.ref b :: As).toArray, t, U', L, hT, X', hL, e1, e2, hq, st⟩
  · dsimp only [Pt.U, Pt.locs, Pt.cells, Pt.slots] at X' e1 e2 h1 h2 h3 st hcl
    subst h1; subst h2; subst h3
    exact Or.inr ⟨q, (T.setVm vm₁).calling g' mk (Value.ref b :: As).toArray, t, U', L, E, ce, hT, X', hL, e1, e2, hq, hce, hcv, vx_cls hW₁ hcl, st⟩
theorem vx_runSX {hh : List (Nat × Nat × Nat × Nat)} (S : CallFix p m c cc nL s args Ts own) (hM : vx_Met l y ws rm Pc Qc XC mc ms free) (cw : vx_CSW R s args own index y bytes maxL ret hh ws rm mc ms n) (hp : PreS s H Pc As)
    (hg : g.method = m) (hn : As.length = n) (hsize : g.locals.size = nL) (hstack : g.stack = As.reverse ++ rest) (hW : 2 * g.monitorRoom + (rest.map fun v => v.category).sum ≤ 8) (hdg : decode cc g.pc = .ok (.invokestatic index, 3)) (hf : cells + mc ≤ R.cells ∧ slots + ms ≤ R.slots) :
    vx_Run p l e R s m args below meth c H locs cells slots mc ms g rest (Qc As.toArray) XC free := by
  obtain ⟨⟨hrc, hrs, hfr, hlo, hws, hcw⟩, hcode, hini, hy, hlen, hl, hstt⟩ := cw
  have hK : vx_Back l R p e below s args y 3 8 (PreOf R mc ms Pc) (PostOf Qc mc ms free) (vx_Post XC mc ms free) := vx_backW (hh := hh) (bytes := bytes) (maxL := maxL) (ret := ret) hM hp.1 hrc hrs hfr hlo hws hcw (fun a' U hW => word_at hW (Or.inl (by first | rfl | simp [Cond.onTables, Cond.keeps, Cond.steady])) hini)
  obtain ⟨hx, hb, hml, ho, -⟩ := S
  intro T hT X
  rcases vx_callSX X hx (hh := hh) (bytes := bytes) (maxL := maxL) (ret := ret) ho hl hstt hini hcode hy hK hg (hsize.trans hml.symm) (argsL := As) (rest := rest) (fun sig h => hn.trans (hlen sig h)) hstack hW (by rw [hb]; exact hdg)
    (fun vm₁ hW₁ => ⟨hf.1, hf.2, hp.2 (T.setVm vm₁) hT hW₁⟩) with ⟨v, vm₁, ⟨U', l2, c2, s2⟩, hW₁, X', ⟨g', mk, t, L, e1, e2, hq, h1, hL, h2, h3⟩, st⟩ | ⟨q, vm₁, ⟨U', l2, c2, s2⟩, hW₁, X', ⟨g', mk, t, L, E, ce, e1, e2, hq, hce, hcv, hcl, h1, hL, h2, h3⟩, st⟩
  · dsimp only [Pt.U, Pt.locs, Pt.cells, Pt.slots] at X' e1 e2 h1 h2 h3 st
    subst h1; subst h2; subst h3
    exact Or.inl ⟨v, (T.setVm vm₁).calling g' mk As.toArray, t, U', L, hT, X', hL, e1, e2, hq, st⟩
  · dsimp only [Pt.U, Pt.locs, Pt.cells, Pt.slots] at X' e1 e2 h1 h2 h3 st hcl
    subst h1; subst h2; subst h3
    exact Or.inr ⟨q, (T.setVm vm₁).calling g' mk As.toArray, t, U', L, E, ce, hT, X', hL, e1, e2, hq, hce, hcv, vx_cls hW₁ hcl, st⟩
end
end VXH
theorem vx_ofWH {l : Launch} {y : MethodName} {ws ws' : List Cond} {rm : Room} {Pc : Array Value → State → Prop} {Qc : Array Value → State → Outcome → State → Prop} {XC : String → State → State → Prop} {mc ms : Nat} {free : Addr → Prop} {cc : ByteArray} {maxL : Nat} {ret : Option FieldType} {hh : List (Nat × Nat × Nat × Nat)}
    (hy : plainName y.cls = true) (hw : ws = Cond.codeWith y cc maxL ret hh :: ws')
    (body : ∀ p e s m args below meth c s₁, BodyLoose p l y (headSpec ws rm) cc maxL ret e s m args below meth c s₁ → c.maxLocals = maxL → Pc args s →
      W p l e (headSpec ws rm).room s m args below meth c s.heap [] 0 0 (vx_MQ below Qc XC args s mc ms free) (entryFrame m args maxL)) : vx_Met l y ws rm Pc Qc XC mc ms free := by
  refine MetFree.of_bodyS (code := cc) (maxLocals := maxL) (ret := ret) hy ?_ ?_
  · intro args s m h hn
    obtain ⟨m9, meth, c, hn9, h1, h2, h3, h4, -, h5, h6, -⟩ := Cond.codeWith_spec (atoms_spec (ws := ws) h _ (by rw [hw]; exact List.mem_cons_self))
    cases hn.symm.trans hn9
    exact ⟨meth, c, h1, h2, h3, h4, h5, h6⟩
  · intro p e s m args below meth c s₁ B hml hP _
    have hh0 : s₁.heap = s.heap := by rw [B.state]; rfl
    obtain ⟨t, a1, o, b1, b2, b3⟩ := body p e s m args below meth c s₁ B hml hP s₁ hh0 (Stand.of_body B)
    exact ⟨t, o, a1, b1, b2, b3⟩
/-! ===== END ===== -/
end
section
def RX0 : String := "RallyCard$Cards"
def TX0 : u_T := fun k => match k with
  | 0 => ("RallyCard$Cards", "itinerary", "LRallyCard$Itinerary;", true)
  | 1 => ("RallyCard$Cards", "orders", "LRallyCard$Orders;", true)
  | 2 => ("RallyCard$Cards", "stamps", "[I", true)
  | 3 => ("RallyCard$Cards", "delays", "[I", true)
  | 4 => ("RallyCard$Cards", "penalties", "[I", true)
  | 5 => ("RallyCard$Cards", "late", "[I", true)
  | 6 => ("RallyCard$Cards", "retired", "[Z", true)
  | _ => ("RallyCard$Cards", "askedAgain", "[Z", true)
def tyX0 : Nat → FieldType := fun k => match k with
  | 0 => .object "RallyCard$Itinerary"
  | 1 => .object "RallyCard$Orders"
  | 2 => .array .int
  | 3 => .array .int
  | 4 => .array .int
  | 5 => .array .int
  | 6 => .array .boolean
  | _ => .array .boolean
abbrev wsX00 : List Cond := u_ws RX0 TX0 8
theorem nmX0 : ∀ a, a < 8 → ∀ b, b < 8 → a ≠ b → (TX0 a).2.1 ≠ (TX0 b).2.1 := by decide +kernel
theorem tyX0_ok : ∀ k, k < 8 → parseFieldDescriptor (TX0 k).2.2.1 = some (tyX0 k) := by decide +kernel
abbrev cX0_init : ByteArray := prog_2_method_1_code
def yX0_init : MethodName := ⟨RX0, "<init>", "(LRallyCard$Itinerary;LRallyCard$Orders;)V"⟩
abbrev cX0_stampAt : ByteArray := prog_2_method_2_code
def yX0_stampAt : MethodName := ⟨RX0, "stampAt", "(II)I"⟩
abbrev cX0_dueAt : ByteArray := prog_2_method_3_code
def yX0_dueAt : MethodName := ⟨RX0, "dueAt", "(II)I"⟩
abbrev cX0_takesStamp : ByteArray := prog_2_method_4_code
def yX0_takesStamp : MethodName := ⟨RX0, "takesStamp", "(II)Z"⟩
abbrev cX0_put : ByteArray := prog_2_method_5_code
def yX0_put : MethodName := ⟨RX0, "put", "(III)I"⟩
abbrev cX0_penaltyAt : ByteArray := prog_2_method_6_code
def yX0_penaltyAt : MethodName := ⟨RX0, "penaltyAt", "(II)I"⟩
abbrev cX0_penaltiesFromCard : ByteArray := prog_2_method_7_code
def yX0_penaltiesFromCard : MethodName := ⟨RX0, "penaltiesFromCard", "(I)I"⟩
abbrev cX0_giveDelay : ByteArray := prog_2_method_8_code
def yX0_giveDelay : MethodName := ⟨RX0, "giveDelay", "(IIII)I"⟩
abbrev cX0_startTenths : ByteArray := prog_2_method_9_code
def yX0_startTenths : MethodName := ⟨RX0, "startTenths", "(II)I"⟩
abbrev cX0_penaltiesOf : ByteArray := prog_2_method_10_code
def yX0_penaltiesOf : MethodName := ⟨RX0, "penaltiesOf", "(I)I"⟩
abbrev cX0_lateOf : ByteArray := prog_2_method_11_code
def yX0_lateOf : MethodName := ⟨RX0, "lateOf", "(I)I"⟩
abbrev cX0_isOut : ByteArray := prog_2_method_12_code
def yX0_isOut : MethodName := ⟨RX0, "isOut", "(I)Z"⟩
abbrev cX0_isRetired : ByteArray := prog_2_method_13_code
def yX0_isRetired : MethodName := ⟨RX0, "isRetired", "(I)Z"⟩
abbrev cX0_isRunning : ByteArray := prog_2_method_14_code
def yX0_isRunning : MethodName := ⟨RX0, "isRunning", "(I)Z"⟩
abbrev cX0_hasStarted : ByteArray := prog_2_method_15_code
def yX0_hasStarted : MethodName := ⟨RX0, "hasStarted", "(I)Z"⟩
abbrev cX0_withdraw : ByteArray := prog_2_method_16_code
def yX0_withdraw : MethodName := ⟨RX0, "withdraw", "(IZ)V"⟩
abbrev cX0_canReturn : ByteArray := prog_2_method_17_code
def yX0_canReturn : MethodName := ⟨RX0, "canReturn", "(I)Z"⟩
abbrev cX0_bringBack : ByteArray := prog_2_method_18_code
def yX0_bringBack : MethodName := ⟨RX0, "bringBack", "(I)V"⟩
def RX1 : String := "RallyCard$Itinerary"
def TX1 : u_T := fun k => match k with
  | 0 => ("RallyCard$Itinerary", "kinds", "[I", true)
  | 1 => ("RallyCard$Itinerary", "minutes", "[I", true)
  | 2 => ("RallyCard$Itinerary", "legs", "[I", true)
  | _ => ("RallyCard$Itinerary", "size", "I", false)
def tyX1 : Nat → FieldType := fun k => match k with
  | 0 => .array .int
  | 1 => .array .int
  | 2 => .array .int
  | _ => .int
abbrev wsX10 : List Cond := u_ws RX1 TX1 4
theorem nmX1 : ∀ a, a < 4 → ∀ b, b < 4 → a ≠ b → (TX1 a).2.1 ≠ (TX1 b).2.1 := by decide +kernel
theorem tyX1_ok : ∀ k, k < 4 → parseFieldDescriptor (TX1 k).2.2.1 = some (tyX1 k) := by decide +kernel
abbrev cX1_init : ByteArray := prog_3_method_1_code
def yX1_init : MethodName := ⟨RX1, "<init>", "()V"⟩
abbrev cX1_has : ByteArray := prog_3_method_2_code
def yX1_has : MethodName := ⟨RX1, "has", "(I)Z"⟩
abbrev cX1_size : ByteArray := prog_3_method_3_code
def yX1_size : MethodName := ⟨RX1, "size", "()I"⟩
abbrev cX1_kindOf : ByteArray := prog_3_method_4_code
def yX1_kindOf : MethodName := ⟨RX1, "kindOf", "(I)I"⟩
abbrev cX1_minutesOf : ByteArray := prog_3_method_5_code
def yX1_minutesOf : MethodName := ⟨RX1, "minutesOf", "(I)I"⟩
abbrev cX1_takes : ByteArray := prog_3_method_6_code
def yX1_takes : MethodName := ⟨RX1, "takes", "(I)Z"⟩
abbrev cX1_add : ByteArray := prog_3_method_7_code
def yX1_add : MethodName := ⟨RX1, "add", "(II)I"⟩
abbrev cX1_isBehindStage : ByteArray := prog_3_method_8_code
def yX1_isBehindStage : MethodName := ⟨RX1, "isBehindStage", "(I)Z"⟩
abbrev cX1_controlAhead : ByteArray := prog_3_method_9_code
def yX1_controlAhead : MethodName := ⟨RX1, "controlAhead", "(I)I"⟩
abbrev cX1_legOf : ByteArray := prog_3_method_10_code
def yX1_legOf : MethodName := ⟨RX1, "legOf", "(I)I"⟩
def RX2 : String := "RallyCard$Orders"
def TX2 : u_T := fun k => match k with
  | 0 => ("RallyCard$Orders", "cars", "[I", true)
  | _ => ("RallyCard$Orders", "sizes", "[I", true)
def tyX2 : Nat → FieldType := fun k => match k with
  | 0 => .array .int
  | _ => .array .int
abbrev wsX20 : List Cond := u_ws RX2 TX2 2
theorem nmX2 : ∀ a, a < 2 → ∀ b, b < 2 → a ≠ b → (TX2 a).2.1 ≠ (TX2 b).2.1 := by decide +kernel
theorem tyX2_ok : ∀ k, k < 2 → parseFieldDescriptor (TX2 k).2.2.1 = some (tyX2 k) := by decide +kernel
abbrev cX2_init : ByteArray := prog_4_method_1_code
def yX2_init : MethodName := ⟨RX2, "<init>", "()V"⟩
abbrev cX2_isOpen : ByteArray := prog_4_method_2_code
def yX2_isOpen : MethodName := ⟨RX2, "isOpen", "(I)Z"⟩
abbrev cX2_sizeOf : ByteArray := prog_4_method_3_code
def yX2_sizeOf : MethodName := ⟨RX2, "sizeOf", "(I)I"⟩
abbrev cX2_begin : ByteArray := prog_4_method_4_code
def yX2_begin : MethodName := ⟨RX2, "begin", "(I)V"⟩
abbrev cX2_add : ByteArray := prog_4_method_5_code
def yX2_add : MethodName := ⟨RX2, "add", "(II)V"⟩
abbrev cX2_carAt : ByteArray := prog_4_method_6_code
def yX2_carAt : MethodName := ⟨RX2, "carAt", "(II)I"⟩
abbrev cX2_placeOf : ByteArray := prog_4_method_7_code
def yX2_placeOf : MethodName := ⟨RX2, "placeOf", "(II)I"⟩
def RX3 : String := "RallyCard$Rally"
def TX3 : u_T := fun k => match k with
  | 0 => ("RallyCard$Rally", "itinerary", "LRallyCard$Itinerary;", true)
  | 1 => ("RallyCard$Rally", "orders", "LRallyCard$Orders;", true)
  | 2 => ("RallyCard$Rally", "cards", "LRallyCard$Cards;", true)
  | 3 => ("RallyCard$Rally", "stages", "LRallyCard$Stages;", true)
  | 4 => ("RallyCard$Rally", "tyres", "LRallyCard$Tyres;", true)
  | _ => ("RallyCard$Rally", "ranks", "LRallyCard$Ranks;", true)
def tyX3 : Nat → FieldType := fun k => match k with
  | 0 => .object "RallyCard$Itinerary"
  | 1 => .object "RallyCard$Orders"
  | 2 => .object "RallyCard$Cards"
  | 3 => .object "RallyCard$Stages"
  | 4 => .object "RallyCard$Tyres"
  | _ => .object "RallyCard$Ranks"
abbrev wsX30 : List Cond := u_ws RX3 TX3 6
theorem nmX3 : ∀ a, a < 6 → ∀ b, b < 6 → a ≠ b → (TX3 a).2.1 ≠ (TX3 b).2.1 := by decide +kernel
theorem tyX3_ok : ∀ k, k < 6 → parseFieldDescriptor (TX3 k).2.2.1 = some (tyX3 k) := by decide +kernel
abbrev cX3_init : ByteArray := prog_5_method_1_code
def yX3_init : MethodName := ⟨RX3, "<init>", "(LRallyCard$Itinerary;LRallyCard$Orders;LRallyCard$Cards;LRallyCard$Stages;LRallyCard$Tyres;LRallyCard$Ranks;)V"⟩
abbrev cX3_begin : ByteArray := prog_5_method_2_code
def yX3_begin : MethodName := ⟨RX3, "begin", "()LRallyCard$Rally;"⟩
abbrev cX3_isBegun : ByteArray := prog_5_method_3_code
def yX3_isBegun : MethodName := ⟨RX3, "isBegun", "()Z"⟩
abbrev cX3_isNextLeg : ByteArray := prog_5_method_4_code
def yX3_isNextLeg : MethodName := ⟨RX3, "isNextLeg", "(I)Z"⟩
abbrev cX3_makeOrder : ByteArray := prog_5_method_5_code
def yX3_makeOrder : MethodName := ⟨RX3, "makeOrder", "(II)I"⟩
abbrev cX3_addByNumbers : ByteArray := prog_5_method_6_code
def yX3_addByNumbers : MethodName := ⟨RX3, "addByNumbers", "(I)V"⟩
abbrev cX3_addByRank : ByteArray := prog_5_method_7_code
def yX3_addByRank : MethodName := ⟨RX3, "addByRank", "(II)V"⟩
abbrev cX3_addReturning : ByteArray := prog_5_method_8_code
def yX3_addReturning : MethodName := ⟨RX3, "addReturning", "(I)V"⟩
def RX4 : String := "RallyCard$Ranks"
def TX4 : u_T := fun k => match k with
  | 0 => ("RallyCard$Ranks", "cards", "LRallyCard$Cards;", true)
  | 1 => ("RallyCard$Ranks", "stages", "LRallyCard$Stages;", true)
  | 2 => ("RallyCard$Ranks", "tyres", "LRallyCard$Tyres;", true)
  | 3 => ("RallyCard$Ranks", "totals", "[I", true)
  | 4 => ("RallyCard$Ranks", "isIn", "[Z", true)
  | _ => ("RallyCard$Ranks", "places", "[I", true)
def tyX4 : Nat → FieldType := fun k => match k with
  | 0 => .object "RallyCard$Cards"
  | 1 => .object "RallyCard$Stages"
  | 2 => .object "RallyCard$Tyres"
  | 3 => .array .int
  | 4 => .array .boolean
  | _ => .array .int
abbrev wsX40 : List Cond := u_ws RX4 TX4 6
theorem nmX4 : ∀ a, a < 6 → ∀ b, b < 6 → a ≠ b → (TX4 a).2.1 ≠ (TX4 b).2.1 := by decide +kernel
theorem tyX4_ok : ∀ k, k < 6 → parseFieldDescriptor (TX4 k).2.2.1 = some (tyX4 k) := by decide +kernel
abbrev cX4_init : ByteArray := prog_6_method_1_code
def yX4_init : MethodName := ⟨RX4, "<init>", "(LRallyCard$Cards;LRallyCard$Stages;LRallyCard$Tyres;)V"⟩
abbrev cX4_penaltiesOf : ByteArray := prog_6_method_2_code
def yX4_penaltiesOf : MethodName := ⟨RX4, "penaltiesOf", "(I)I"⟩
abbrev cX4_totalOf : ByteArray := prog_6_method_3_code
def yX4_totalOf : MethodName := ⟨RX4, "totalOf", "(I)I"⟩
abbrev cX4_totalFromCard : ByteArray := prog_6_method_4_code
def yX4_totalFromCard : MethodName := ⟨RX4, "totalFromCard", "(I)I"⟩
abbrev cX4_reckon : ByteArray := prog_6_method_5_code
def yX4_reckon : MethodName := ⟨RX4, "reckon", "(Z)V"⟩
abbrev cX4_placeOf : ByteArray := prog_6_method_6_code
def yX4_placeOf : MethodName := ⟨RX4, "placeOf", "(I)I"⟩
abbrev cX4_carAt : ByteArray := prog_6_method_7_code
def yX4_carAt : MethodName := ⟨RX4, "carAt", "(I)I"⟩
abbrev cX4_isAhead : ByteArray := prog_6_method_8_code
def yX4_isAhead : MethodName := ⟨RX4, "isAhead", "(II)Z"⟩
def RX5 : String := "RallyCard$Season"
def TX5 : u_T := fun k => match k with
  | 0 => ("RallyCard$Season", "results", "[I", true)
  | _ => ("RallyCard$Season", "over", "I", false)
def tyX5 : Nat → FieldType := fun k => match k with
  | 0 => .array .int
  | _ => .int
abbrev wsX50 : List Cond := u_ws RX5 TX5 2
theorem nmX5 : ∀ a, a < 2 → ∀ b, b < 2 → a ≠ b → (TX5 a).2.1 ≠ (TX5 b).2.1 := by decide +kernel
theorem tyX5_ok : ∀ k, k < 2 → parseFieldDescriptor (TX5 k).2.2.1 = some (tyX5 k) := by decide +kernel
abbrev cX5_init : ByteArray := prog_7_method_1_code
def yX5_init : MethodName := ⟨RX5, "<init>", "()V"⟩
abbrev cX5_isFull : ByteArray := prog_7_method_2_code
def yX5_isFull : MethodName := ⟨RX5, "isFull", "()Z"⟩
abbrev cX5_note : ByteArray := prog_7_method_3_code
def yX5_note : MethodName := ⟨RX5, "note", "(II)V"⟩
abbrev cX5_end : ByteArray := prog_7_method_4_code
def yX5_end : MethodName := ⟨RX5, "end", "()I"⟩
abbrev cX5_sumOf : ByteArray := prog_7_method_5_code
def yX5_sumOf : MethodName := ⟨RX5, "sumOf", "(I)I"⟩
abbrev cX5_carAt : ByteArray := prog_7_method_6_code
def yX5_carAt : MethodName := ⟨RX5, "carAt", "(I)I"⟩
abbrev cX5_countAhead : ByteArray := prog_7_method_7_code
def yX5_countAhead : MethodName := ⟨RX5, "countAhead", "(I)I"⟩
abbrev cX5_isAhead : ByteArray := prog_7_method_8_code
def yX5_isAhead : MethodName := ⟨RX5, "isAhead", "(II)Z"⟩
def RX6 : String := "RallyCard$Stages"
def TX6 : u_T := fun k => match k with
  | 0 => ("RallyCard$Stages", "itinerary", "LRallyCard$Itinerary;", true)
  | 1 => ("RallyCard$Stages", "orders", "LRallyCard$Orders;", true)
  | 2 => ("RallyCard$Stages", "cards", "LRallyCard$Cards;", true)
  | 3 => ("RallyCard$Stages", "beams", "[I", true)
  | 4 => ("RallyCard$Stages", "hands", "[I", true)
  | 5 => ("RallyCard$Stages", "awards", "[I", true)
  | 6 => ("RallyCard$Stages", "heldUp", "[Z", true)
  | 7 => ("RallyCard$Stages", "ownTimes", "[I", true)
  | 8 => ("RallyCard$Stages", "times", "[I", true)
  | _ => ("RallyCard$Stages", "bestTimes", "[I", true)
def tyX6 : Nat → FieldType := fun k => match k with
  | 0 => .object "RallyCard$Itinerary"
  | 1 => .object "RallyCard$Orders"
  | 2 => .object "RallyCard$Cards"
  | 3 => .array .int
  | 4 => .array .int
  | 5 => .array .int
  | 6 => .array .boolean
  | 7 => .array .int
  | 8 => .array .int
  | _ => .array .int
abbrev wsX60 : List Cond := u_ws RX6 TX6 10
theorem nmX6 : ∀ a, a < 10 → ∀ b, b < 10 → a ≠ b → (TX6 a).2.1 ≠ (TX6 b).2.1 := by decide +kernel
theorem tyX6_ok : ∀ k, k < 10 → parseFieldDescriptor (TX6 k).2.2.1 = some (tyX6 k) := by decide +kernel
abbrev cX6_init : ByteArray := prog_8_method_1_code
def yX6_init : MethodName := ⟨RX6, "<init>", "(LRallyCard$Itinerary;LRallyCard$Orders;LRallyCard$Cards;)V"⟩
abbrev cX6_tell : ByteArray := prog_8_method_2_code
def yX6_tell : MethodName := ⟨RX6, "tell", "(IIZI)V"⟩
abbrev cX6_hold : ByteArray := prog_8_method_3_code
def yX6_hold : MethodName := ⟨RX6, "hold", "(IIZ)I"⟩
abbrev cX6_grant : ByteArray := prog_8_method_4_code
def yX6_grant : MethodName := ⟨RX6, "grant", "(III)I"⟩
abbrev cX6_timeOf : ByteArray := prog_8_method_5_code
def yX6_timeOf : MethodName := ⟨RX6, "timeOf", "(II)I"⟩
abbrev cX6_sumOf : ByteArray := prog_8_method_6_code
def yX6_sumOf : MethodName := ⟨RX6, "sumOf", "(I)I"⟩
abbrev cX6_compareTimes : ByteArray := prog_8_method_7_code
def yX6_compareTimes : MethodName := ⟨RX6, "compareTimes", "(II)I"⟩
abbrev cX6_reckonAll : ByteArray := prog_8_method_8_code
def yX6_reckonAll : MethodName := ⟨RX6, "reckonAll", "()V"⟩
abbrev cX6_reckon : ByteArray := prog_8_method_9_code
def yX6_reckon : MethodName := ⟨RX6, "reckon", "(I)V"⟩
abbrev cX6_reckonTime : ByteArray := prog_8_method_10_code
def yX6_reckonTime : MethodName := ⟨RX6, "reckonTime", "(II)I"⟩
abbrev cX6_reckonOwnTimes : ByteArray := prog_8_method_11_code
def yX6_reckonOwnTimes : MethodName := ⟨RX6, "reckonOwnTimes", "(I)V"⟩
abbrev cX6_beamLead : ByteArray := prog_8_method_12_code
def yX6_beamLead : MethodName := ⟨RX6, "beamLead", "(I)I"⟩
abbrev cX6_notionalTime : ByteArray := prog_8_method_13_code
def yX6_notionalTime : MethodName := ⟨RX6, "notionalTime", "(II)I"⟩
abbrev cX6_freeTime : ByteArray := prog_8_method_14_code
def yX6_freeTime : MethodName := ⟨RX6, "freeTime", "(II)I"⟩
def RX7 : String := "RallyCard$Tyres"
def TX7 : u_T := fun k => match k with
  | 0 => ("RallyCard$Tyres", "allocated", "[Z", true)
  | 1 => ("RallyCard$Tyres", "fined", "[Z", true)
  | 2 => ("RallyCard$Tyres", "counts", "[I", true)
  | _ => ("RallyCard$Tyres", "penalties", "[I", true)
def tyX7 : Nat → FieldType := fun k => match k with
  | 0 => .array .boolean
  | 1 => .array .boolean
  | 2 => .array .int
  | _ => .array .int
abbrev wsX70 : List Cond := u_ws RX7 TX7 4
theorem nmX7 : ∀ a, a < 4 → ∀ b, b < 4 → a ≠ b → (TX7 a).2.1 ≠ (TX7 b).2.1 := by decide +kernel
theorem tyX7_ok : ∀ k, k < 4 → parseFieldDescriptor (TX7 k).2.2.1 = some (tyX7 k) := by decide +kernel
abbrev cX7_init : ByteArray := prog_9_method_1_code
def yX7_init : MethodName := ⟨RX7, "<init>", "()V"⟩
abbrev cX7_takes : ByteArray := prog_9_method_2_code
def yX7_takes : MethodName := ⟨RX7, "takes", "(II)Z"⟩
abbrev cX7_add : ByteArray := prog_9_method_3_code
def yX7_add : MethodName := ⟨RX7, "add", "(II)I"⟩
abbrev cX7_check : ByteArray := prog_9_method_4_code
def yX7_check : MethodName := ⟨RX7, "check", "(II)I"⟩
abbrev cX7_penaltiesOf : ByteArray := prog_9_method_5_code
def yX7_penaltiesOf : MethodName := ⟨RX7, "penaltiesOf", "(I)I"⟩
abbrev cX7_penaltiesFromTyres : ByteArray := prog_9_method_6_code
def yX7_penaltiesFromTyres : MethodName := ⟨RX7, "penaltiesFromTyres", "(I)I"⟩
def RX8 : String := "RallyCard"
def TX8 : u_T := fun k => match k with
  | 0 => ("RallyCard", "season", "LRallyCard$Season;", true)
  | _ => ("RallyCard", "rally", "LRallyCard$Rally;", false)
def tyX8 : Nat → FieldType := fun k => match k with
  | 0 => .object "RallyCard$Season"
  | _ => .object "RallyCard$Rally"
abbrev wsX80 : List Cond := u_ws RX8 TX8 2
theorem nmX8 : ∀ a, a < 2 → ∀ b, b < 2 → a ≠ b → (TX8 a).2.1 ≠ (TX8 b).2.1 := by decide +kernel
theorem tyX8_ok : ∀ k, k < 2 → parseFieldDescriptor (TX8 k).2.2.1 = some (tyX8 k) := by decide +kernel
abbrev cX8_init : ByteArray := prog_1_method_1_code
def yX8_init : MethodName := ⟨RX8, "<init>", "()V"⟩
abbrev cX8_item : ByteArray := prog_1_method_2_code
def yX8_item : MethodName := ⟨RX8, "item", "(II)I"⟩
abbrev cX8_open : ByteArray := prog_1_method_3_code
def yX8_open : MethodName := ⟨RX8, "open", "(II)I"⟩
abbrev cX8_starts : ByteArray := prog_1_method_4_code
def yX8_starts : MethodName := ⟨RX8, "starts", "(II)I"⟩
abbrev cX8_due : ByteArray := prog_1_method_5_code
def yX8_due : MethodName := ⟨RX8, "due", "(II)I"⟩
abbrev cX8_stamp : ByteArray := prog_1_method_6_code
def yX8_stamp : MethodName := ⟨RX8, "stamp", "(III)I"⟩
abbrev cX8_delay : ByteArray := prog_1_method_7_code
def yX8_delay : MethodName := ⟨RX8, "delay", "(III)I"⟩
abbrev cX8_finish : ByteArray := prog_1_method_8_code
def yX8_finish : MethodName := ⟨RX8, "finish", "(IIZI)V"⟩
abbrev cX8_held : ByteArray := prog_1_method_9_code
def yX8_held : MethodName := ⟨RX8, "held", "(IIZ)I"⟩
abbrev cX8_award : ByteArray := prog_1_method_10_code
def yX8_award : MethodName := ⟨RX8, "award", "(III)I"⟩
abbrev cX8_time : ByteArray := prog_1_method_11_code
def yX8_time : MethodName := ⟨RX8, "time", "(II)I"⟩
abbrev cX8_allocate : ByteArray := prog_1_method_12_code
def yX8_allocate : MethodName := ⟨RX8, "allocate", "(II)I"⟩
abbrev cX8_seen : ByteArray := prog_1_method_13_code
def yX8_seen : MethodName := ⟨RX8, "seen", "(II)I"⟩
abbrev cX8_retire : ByteArray := prog_1_method_14_code
def yX8_retire : MethodName := ⟨RX8, "retire", "(IZ)V"⟩
abbrev cX8_car : ByteArray := prog_1_method_15_code
def yX8_car : MethodName := ⟨RX8, "car", "(II)I"⟩
abbrev cX8_totalAnew : ByteArray := prog_1_method_16_code
def yX8_totalAnew : MethodName := ⟨RX8, "totalAnew", "(I)I"⟩
abbrev cX8_ranked : ByteArray := prog_1_method_17_code
def yX8_ranked : MethodName := ⟨RX8, "ranked", "(I)I"⟩
abbrev cX8_close : ByteArray := prog_1_method_18_code
def yX8_close : MethodName := ⟨RX8, "close", "()I"⟩
abbrev cX8_points : ByteArray := prog_1_method_19_code
def yX8_points : MethodName := ⟨RX8, "points", "(I)I"⟩
abbrev cX8_table : ByteArray := prog_1_method_20_code
def yX8_table : MethodName := ⟨RX8, "table", "(I)I"⟩
abbrev cX8_needCar : ByteArray := prog_1_method_21_code
def yX8_needCar : MethodName := ⟨RX8, "needCar", "(I)V"⟩
abbrev cX8_needItem : ByteArray := prog_1_method_22_code
def yX8_needItem : MethodName := ⟨RX8, "needItem", "(I)V"⟩
abbrev cX8_needRange : ByteArray := prog_1_method_23_code
def yX8_needRange : MethodName := ⟨RX8, "needRange", "(III)V"⟩
abbrev cX8_needKind : ByteArray := prog_1_method_24_code
def yX8_needKind : MethodName := ⟨RX8, "needKind", "(II)V"⟩
abbrev cX8_needControl : ByteArray := prog_1_method_25_code
def yX8_needControl : MethodName := ⟨RX8, "needControl", "(I)V"⟩
abbrev cX8_needStart : ByteArray := prog_1_method_26_code
def yX8_needStart : MethodName := ⟨RX8, "needStart", "(II)V"⟩
def RX9 : String := "RallyCardModel"
def TX9 : u_T := fun k => match k with
  | 0 => ("RallyCardModel", "thrown", "I", false)
  | 1 => ("RallyCardModel", "items", "I", false)
  | 2 => ("RallyCardModel", "kind", "[I", true)
  | 3 => ("RallyCardModel", "minutes", "[I", true)
  | 4 => ("RallyCardModel", "order", "[I", true)
  | 5 => ("RallyCardModel", "many", "[I", true)
  | 6 => ("RallyCardModel", "stamped", "[I", true)
  | 7 => ("RallyCardModel", "delays", "[I", true)
  | 8 => ("RallyCardModel", "beam", "[I", true)
  | 9 => ("RallyCardModel", "hand", "[I", true)
  | 10 => ("RallyCardModel", "isHeld", "[Z", true)
  | 11 => ("RallyCardModel", "award", "[I", true)
  | 12 => ("RallyCardModel", "penalty", "[I", true)
  | 13 => ("RallyCardModel", "late", "[I", true)
  | 14 => ("RallyCardModel", "isOut", "[Z", true)
  | 15 => ("RallyCardModel", "isRetired", "[Z", true)
  | 16 => ("RallyCardModel", "asks", "[Z", true)
  | 17 => ("RallyCardModel", "isOwn", "[Z", true)
  | 18 => ("RallyCardModel", "isSeen", "[Z", true)
  | 19 => ("RallyCardModel", "tyres", "[I", true)
  | 20 => ("RallyCardModel", "rallies", "I", false)
  | 21 => ("RallyCardModel", "place", "[I", true)
  | 22 => ("RallyCardModel", "rank", "[I", true)
  | _ => ("RallyCardModel", "total", "[I", true)
def tyX9 : Nat → FieldType := fun k => match k with
  | 0 => .int
  | 1 => .int
  | 2 => .array .int
  | 3 => .array .int
  | 4 => .array .int
  | 5 => .array .int
  | 6 => .array .int
  | 7 => .array .int
  | 8 => .array .int
  | 9 => .array .int
  | 10 => .array .boolean
  | 11 => .array .int
  | 12 => .array .int
  | 13 => .array .int
  | 14 => .array .boolean
  | 15 => .array .boolean
  | 16 => .array .boolean
  | 17 => .array .boolean
  | 18 => .array .boolean
  | 19 => .array .int
  | 20 => .int
  | 21 => .array .int
  | 22 => .array .int
  | _ => .array .int
abbrev wsX90 : List Cond := u_ws RX9 TX9 24
theorem nmX9 : ∀ a, a < 24 → ∀ b, b < 24 → a ≠ b → (TX9 a).2.1 ≠ (TX9 b).2.1 := by decide +kernel
theorem tyX9_ok : ∀ k, k < 24 → parseFieldDescriptor (TX9 k).2.2.1 = some (tyX9 k) := by decide +kernel
abbrev cX9_init : ByteArray := prog_11_method_1_code
def yX9_init : MethodName := ⟨RX9, "<init>", "()V"⟩
abbrev cX9_begins : ByteArray := prog_11_method_2_code
def yX9_begins : MethodName := ⟨RX9, "begins", "()V"⟩
abbrev cX9_thrown : ByteArray := prog_11_method_3_code
def yX9_thrown : MethodName := ⟨RX9, "thrown", "()I"⟩
abbrev cX9_holds : ByteArray := prog_11_method_4_code
def yX9_holds : MethodName := ⟨RX9, "holds", "(I)Z"⟩
abbrev cX9_isIn : ByteArray := prog_11_method_5_code
def yX9_isIn : MethodName := ⟨RX9, "isIn", "(III)Z"⟩
abbrev cX9_isCar : ByteArray := prog_11_method_6_code
def yX9_isCar : MethodName := ⟨RX9, "isCar", "(I)Z"⟩
abbrev cX9_isItem : ByteArray := prog_11_method_7_code
def yX9_isItem : MethodName := ⟨RX9, "isItem", "(I)Z"⟩
abbrev cX9_canAdd : ByteArray := prog_11_method_8_code
def yX9_canAdd : MethodName := ⟨RX9, "canAdd", "(I)Z"⟩
abbrev cX9_item : ByteArray := prog_11_method_9_code
def yX9_item : MethodName := ⟨RX9, "item", "(II)I"⟩
abbrev cX9_areOpenAhead : ByteArray := prog_11_method_10_code
def yX9_areOpenAhead : MethodName := ⟨RX9, "areOpenAhead", "(I)Z"⟩
abbrev cX9_joins : ByteArray := prog_11_method_11_code
def yX9_joins : MethodName := ⟨RX9, "joins", "(II)V"⟩
abbrev cX9_open : ByteArray := prog_11_method_12_code
def yX9_open : MethodName := ⟨RX9, "open", "(II)I"⟩
abbrev cX9_starts : ByteArray := prog_11_method_13_code
def yX9_starts : MethodName := ⟨RX9, "starts", "(II)I"⟩
abbrev cX9_ahead : ByteArray := prog_11_method_14_code
def yX9_ahead : MethodName := ⟨RX9, "ahead", "(I)I"⟩
abbrev cX9_legOf : ByteArray := prog_11_method_15_code
def yX9_legOf : MethodName := ⟨RX9, "legOf", "(I)I"⟩
abbrev cX9_placeIn : ByteArray := prog_11_method_16_code
def yX9_placeIn : MethodName := ⟨RX9, "placeIn", "(II)I"⟩
abbrev cX9_dueAt : ByteArray := prog_11_method_17_code
def yX9_dueAt : MethodName := ⟨RX9, "dueAt", "(II)I"⟩
abbrev cX9_due : ByteArray := prog_11_method_18_code
def yX9_due : MethodName := ⟨RX9, "due", "(II)I"⟩
abbrev cX9_stamp : ByteArray := prog_11_method_19_code
def yX9_stamp : MethodName := ⟨RX9, "stamp", "(III)I"⟩
abbrev cX9_delay : ByteArray := prog_11_method_20_code
def yX9_delay : MethodName := ⟨RX9, "delay", "(III)I"⟩
abbrev cX9_startOf : ByteArray := prog_11_method_21_code
def yX9_startOf : MethodName := ⟨RX9, "startOf", "(II)I"⟩
abbrev cX9_floor : ByteArray := prog_11_method_22_code
def yX9_floor : MethodName := ⟨RX9, "floor", "(II)I"⟩
abbrev cX9_meanOf : ByteArray := prog_11_method_23_code
def yX9_meanOf : MethodName := ⟨RX9, "meanOf", "(I)I"⟩
abbrev cX9_ownTime : ByteArray := prog_11_method_24_code
def yX9_ownTime : MethodName := ⟨RX9, "ownTime", "(II)I"⟩
abbrev cX9_nextTime : ByteArray := prog_11_method_25_code
def yX9_nextTime : MethodName := ⟨RX9, "nextTime", "(III)I"⟩
abbrev cX9_notional : ByteArray := prog_11_method_26_code
def yX9_notional : MethodName := ⟨RX9, "notional", "(II)I"⟩
abbrev cX9_timeOf : ByteArray := prog_11_method_27_code
def yX9_timeOf : MethodName := ⟨RX9, "timeOf", "(II)I"⟩
abbrev cX9_wrong : ByteArray := prog_11_method_28_code
def yX9_wrong : MethodName := ⟨RX9, "wrong", "(IIZ)I"⟩
abbrev cX9_finish : ByteArray := prog_11_method_29_code
def yX9_finish : MethodName := ⟨RX9, "finish", "(IIZI)V"⟩
abbrev cX9_held : ByteArray := prog_11_method_30_code
def yX9_held : MethodName := ⟨RX9, "held", "(IIZ)I"⟩
abbrev cX9_award : ByteArray := prog_11_method_31_code
def yX9_award : MethodName := ⟨RX9, "award", "(III)I"⟩
abbrev cX9_time : ByteArray := prog_11_method_32_code
def yX9_time : MethodName := ⟨RX9, "time", "(II)I"⟩
abbrev cX9_allocate : ByteArray := prog_11_method_33_code
def yX9_allocate : MethodName := ⟨RX9, "allocate", "(II)I"⟩
abbrev cX9_seen : ByteArray := prog_11_method_34_code
def yX9_seen : MethodName := ⟨RX9, "seen", "(II)I"⟩
abbrev cX9_retire : ByteArray := prog_11_method_35_code
def yX9_retire : MethodName := ⟨RX9, "retire", "(IZ)V"⟩
abbrev cX9_bestOf : ByteArray := prog_11_method_36_code
def yX9_bestOf : MethodName := ⟨RX9, "bestOf", "(I)I"⟩
abbrev cX9_totalOf : ByteArray := prog_11_method_37_code
def yX9_totalOf : MethodName := ⟨RX9, "totalOf", "(I)I"⟩
abbrev cX9_isRanked : ByteArray := prog_11_method_38_code
def yX9_isRanked : MethodName := ⟨RX9, "isRanked", "(I)Z"⟩
abbrev cX9_isAhead : ByteArray := prog_11_method_39_code
def yX9_isAhead : MethodName := ⟨RX9, "isAhead", "(II)Z"⟩
abbrev cX9_laysRanks : ByteArray := prog_11_method_40_code
def yX9_laysRanks : MethodName := ⟨RX9, "laysRanks", "(Z)V"⟩
abbrev cX9_withRank : ByteArray := prog_11_method_41_code
def yX9_withRank : MethodName := ⟨RX9, "withRank", "(I)I"⟩
abbrev cX9_car : ByteArray := prog_11_method_42_code
def yX9_car : MethodName := ⟨RX9, "car", "(II)I"⟩
abbrev cX9_totalAnew : ByteArray := prog_11_method_43_code
def yX9_totalAnew : MethodName := ⟨RX9, "totalAnew", "(I)I"⟩
abbrev cX9_ranked : ByteArray := prog_11_method_44_code
def yX9_ranked : MethodName := ⟨RX9, "ranked", "(I)I"⟩
abbrev cX9_close : ByteArray := prog_11_method_45_code
def yX9_close : MethodName := ⟨RX9, "close", "()I"⟩
abbrev cX9_pointsFor : ByteArray := prog_11_method_46_code
def yX9_pointsFor : MethodName := ⟨RX9, "pointsFor", "(I)I"⟩
abbrev cX9_sumOf : ByteArray := prog_11_method_47_code
def yX9_sumOf : MethodName := ⟨RX9, "sumOf", "(I)I"⟩
abbrev cX9_points : ByteArray := prog_11_method_48_code
def yX9_points : MethodName := ⟨RX9, "points", "(I)I"⟩
abbrev cX9_often : ByteArray := prog_11_method_49_code
def yX9_often : MethodName := ⟨RX9, "often", "(II)I"⟩
abbrev cX9_isBetter : ByteArray := prog_11_method_50_code
def yX9_isBetter : MethodName := ⟨RX9, "isBetter", "(II)Z"⟩
abbrev cX9_table : ByteArray := prog_11_method_51_code
def yX9_table : MethodName := ⟨RX9, "table", "(I)I"⟩
def RJx145de : String := "java/io/Serializable"
def TJx145de : u_T := fun k => match k with
  | _ => ("", "", "", false)
def tyJx145de : Nat → FieldType := fun k => match k with
  | _ => .int
abbrev wsJx145de0 : List Cond := u_ws RJx145de TJx145de 0
theorem nmJx145de : ∀ a, a < 0 → ∀ b, b < 0 → a ≠ b → (TJx145de a).2.1 ≠ (TJx145de b).2.1 := by decide +kernel
theorem tyJx145de_ok : ∀ k, k < 0 → parseFieldDescriptor (TJx145de k).2.2.1 = some (tyJx145de k) := by decide +kernel
def RJ9 : String := "java/lang/Math"
def TJ9 : u_T := fun k => match k with
  | _ => ("", "", "", false)
def tyJ9 : Nat → FieldType := fun k => match k with
  | _ => .int
abbrev wsJ90 : List Cond := u_ws RJ9 TJ9 0
theorem nmJ9 : ∀ a, a < 0 → ∀ b, b < 0 → a ≠ b → (TJ9 a).2.1 ≠ (TJ9 b).2.1 := by decide +kernel
theorem tyJ9_ok : ∀ k, k < 0 → parseFieldDescriptor (TJ9 k).2.2.1 = some (tyJ9 k) := by decide +kernel
abbrev cJ9_floorDiv_7cf53 : ByteArray := prog_16_method_47_code
def yJ9_floorDiv_7cf53 : MethodName := ⟨RJ9, "floorDiv", "(II)I"⟩
abbrev cJ9_max_7cf53 : ByteArray := prog_16_method_65_code
def yJ9_max_7cf53 : MethodName := ⟨RJ9, "max", "(II)I"⟩
def RJ0 : String := "java/lang/String"
def TJ0 : u_T := fun k => match k with
  | _ => ("", "", "", false)
def tyJ0 : Nat → FieldType := fun k => match k with
  | _ => .int
abbrev wsJ00 : List Cond := u_ws RJ0 TJ0 0
theorem nmJ0 : ∀ a, a < 0 → ∀ b, b < 0 → a ≠ b → (TJ0 a).2.1 ≠ (TJ0 b).2.1 := by decide +kernel
theorem tyJ0_ok : ∀ k, k < 0 → parseFieldDescriptor (TJ0 k).2.2.1 = some (tyJ0 k) := by decide +kernel
def RJ7 : String := "java/util/Arrays"
def TJ7 : u_T := fun k => match k with
  | _ => ("", "", "", false)
def tyJ7 : Nat → FieldType := fun k => match k with
  | _ => .int
abbrev wsJ70 : List Cond := u_ws RJ7 TJ7 0
theorem nmJ7 : ∀ a, a < 0 → ∀ b, b < 0 → a ≠ b → (TJ7 a).2.1 ≠ (TJ7 b).2.1 := by decide +kernel
theorem tyJ7_ok : ∀ k, k < 0 → parseFieldDescriptor (TJ7 k).2.2.1 = some (tyJ7 k) := by decide +kernel
abbrev cJ7_fill_53178 : ByteArray := prog_20_method_103_code
def yJ7_fill_53178 : MethodName := ⟨RJ7, "fill", "([II)V"⟩
def RL : String := "RallyCardLaw"
abbrev cL_item : ByteArray := method_3_code
def yL_item : MethodName := ⟨RL, "item", "(LRallyCard;II[J)I"⟩
abbrev cL_open : ByteArray := method_4_code
def yL_open : MethodName := ⟨RL, "open", "(LRallyCard;II[J)I"⟩
abbrev cL_starts : ByteArray := method_5_code
def yL_starts : MethodName := ⟨RL, "starts", "(LRallyCard;II[J)I"⟩
abbrev cL_due : ByteArray := method_6_code
def yL_due : MethodName := ⟨RL, "due", "(LRallyCard;II[J)I"⟩
abbrev cL_stamp : ByteArray := method_7_code
def yL_stamp : MethodName := ⟨RL, "stamp", "(LRallyCard;III[J)I"⟩
abbrev cL_delay : ByteArray := method_8_code
def yL_delay : MethodName := ⟨RL, "delay", "(LRallyCard;III[J)I"⟩
abbrev cL_finish : ByteArray := method_9_code
def yL_finish : MethodName := ⟨RL, "finish", "(LRallyCard;IIZI)I"⟩
abbrev cL_held : ByteArray := method_10_code
def yL_held : MethodName := ⟨RL, "held", "(LRallyCard;IIZ[J)I"⟩
abbrev cL_award : ByteArray := method_11_code
def yL_award : MethodName := ⟨RL, "award", "(LRallyCard;III[J)I"⟩
abbrev cL_time : ByteArray := method_12_code
def yL_time : MethodName := ⟨RL, "time", "(LRallyCard;II[J)I"⟩
abbrev cL_allocate : ByteArray := method_13_code
def yL_allocate : MethodName := ⟨RL, "allocate", "(LRallyCard;II[J)I"⟩
abbrev cL_seen : ByteArray := method_14_code
def yL_seen : MethodName := ⟨RL, "seen", "(LRallyCard;II[J)I"⟩
abbrev cL_retire : ByteArray := method_15_code
def yL_retire : MethodName := ⟨RL, "retire", "(LRallyCard;IZ)I"⟩
abbrev cL_car : ByteArray := method_16_code
def yL_car : MethodName := ⟨RL, "car", "(LRallyCard;II[J)I"⟩
abbrev cL_totalAnew : ByteArray := method_17_code
def yL_totalAnew : MethodName := ⟨RL, "totalAnew", "(LRallyCard;I[J)I"⟩
abbrev cL_ranked : ByteArray := method_18_code
def yL_ranked : MethodName := ⟨RL, "ranked", "(LRallyCard;I[J)I"⟩
abbrev cL_close : ByteArray := method_19_code
def yL_close : MethodName := ⟨RL, "close", "(LRallyCard;[J)I"⟩
abbrev cL_points : ByteArray := method_20_code
def yL_points : MethodName := ⟨RL, "points", "(LRallyCard;I[J)I"⟩
abbrev cL_table : ByteArray := method_21_code
def yL_table : MethodName := ⟨RL, "table", "(LRallyCard;I[J)I"⟩
abbrev cL_law : ByteArray := code
def yL_law : MethodName := ⟨RL, "law", "([I)Z"⟩
abbrev vwCl : List vw_C := [(RX0, TX0, 8), (RX1, TX1, 4), (RX2, TX2, 2), (RX3, TX3, 6), (RX4, TX4, 6), (RX5, TX5, 2), (RX6, TX6, 10), (RX7, TX7, 4), (RX8, TX8, 2), (RX9, TX9, 24)]
end
section
/-! TABLES: the methods, their links, by program out of the listing; each row is a word of the tables -/
def rnl : List String := [RX0, RX1, RX2, RX3, RX4, RX5, RX6, RX7, RX8, RX9, RL, RJ7, RJ9]
def rn (o : Nat) : String := rnl.getD o ""
def enl : List String := ["java/lang/IllegalStateException", "java/lang/IllegalArgumentException", "java/lang/IndexOutOfBoundsException"]
def en (o : Nat) : String := enl.getD o ""
abbrev rM : Type := MethodName × ByteArray × Nat × Option FieldType × Nat × Bool × Nat × List (Nat × Nat × Nat × Nat) × List Nat × Nat × Nat
def mtab0 : List rM := [(yX0_init, cX0_init, 3, none, 0, false, 2, [], [], 1, 23),
  (yX0_stampAt, cX0_stampAt, 3, (some .int), 0, false, 2, [], [], 1, 21),
  (yX0_dueAt, cX0_dueAt, 5, (some .int), 0, false, 2, [], [], 2, 45),
  (yX0_takesStamp, cX0_takesStamp, 3, (some .boolean), 0, false, 2, [], [], 3, 69),
  (yX0_put, cX0_put, 5, (some .int), 0, false, 3, [], [], 4, 92),
  (yX0_penaltyAt, cX0_penaltyAt, 4, (some .int), 0, false, 2, [], [], 3, 69),
  (yX0_penaltiesFromCard, cX0_penaltiesFromCard, 4, (some .int), 0, false, 1, [], [], 4, 92),
  (yX0_giveDelay, cX0_giveDelay, 8, (some .int), 0, false, 4, [], [], 2, 43),
  (yX0_startTenths, cX0_startTenths, 3, (some .int), 0, false, 2, [], [], 2, 43),
  (yX0_penaltiesOf, cX0_penaltiesOf, 2, (some .int), 0, false, 1, [], [], 0, 0),
  (yX0_lateOf, cX0_lateOf, 2, (some .int), 0, false, 1, [], [], 0, 0),
  (yX0_isOut, cX0_isOut, 2, (some .boolean), 0, false, 1, [], [], 0, 0),
  (yX0_isRetired, cX0_isRetired, 2, (some .boolean), 0, false, 1, [], [], 0, 0),
  (yX0_isRunning, cX0_isRunning, 2, (some .boolean), 0, false, 1, [], [], 1, 21),
  (yX0_hasStarted, cX0_hasStarted, 2, (some .boolean), 0, false, 1, [], [], 2, 43),
  (yX0_withdraw, cX0_withdraw, 3, none, 0, false, 2, [], [], 0, 0),
  (yX0_canReturn, cX0_canReturn, 2, (some .boolean), 0, false, 1, [], [], 3, 64),
  (yX0_bringBack, cX0_bringBack, 2, none, 0, false, 1, [], [], 0, 0),
  (yX1_init, cX1_init, 1, none, 1, false, 0, [], [], 1, 20),
  (yX1_has, cX1_has, 2, (some .boolean), 1, false, 1, [], [], 0, 0),
  (yX1_size, cX1_size, 1, (some .int), 1, false, 0, [], [], 0, 0),
  (yX1_kindOf, cX1_kindOf, 2, (some .int), 1, false, 1, [], [], 1, 21),
  (yX1_minutesOf, cX1_minutesOf, 2, (some .int), 1, false, 1, [], [], 1, 21),
  (yX1_takes, cX1_takes, 2, (some .boolean), 1, false, 1, [], [], 2, 42),
  (yX1_add, cX1_add, 3, (some .int), 1, false, 2, [], [], 2, 42),
  (yX1_isBehindStage, cX1_isBehindStage, 2, (some .boolean), 1, false, 1, [], [], 0, 0),
  (yX1_controlAhead, cX1_controlAhead, 2, (some .int), 1, false, 1, [], [], 1, 21),
  (yX1_legOf, cX1_legOf, 2, (some .int), 1, false, 1, [], [], 1, 21),
  (yX2_init, cX2_init, 1, none, 2, false, 0, [], [], 1, 23),
  (yX2_isOpen, cX2_isOpen, 2, (some .boolean), 2, false, 1, [], [], 0, 0)]
def mtab1 : List rM := [(yX2_sizeOf, cX2_sizeOf, 2, (some .int), 2, false, 1, [], [], 0, 0),
  (yX2_begin, cX2_begin, 2, none, 2, false, 1, [], [], 0, 0),
  (yX2_add, cX2_add, 3, none, 2, false, 2, [], [], 0, 0),
  (yX2_carAt, cX2_carAt, 3, (some .int), 2, false, 2, [], [], 0, 0),
  (yX2_placeOf, cX2_placeOf, 4, (some .int), 2, false, 2, [], [], 1, 22),
  (yX3_init, cX3_init, 7, none, 3, false, 6, [], [], 1, 20),
  (yX3_begin, cX3_begin, 5, (some (.object "RallyCard$Rally")), 3, true, 0, [], [], 2, 46),
  (yX3_isBegun, cX3_isBegun, 1, (some .boolean), 3, false, 0, [], [], 1, 21),
  (yX3_isNextLeg, cX3_isNextLeg, 3, (some .boolean), 3, false, 1, [], [], 2, 42),
  (yX3_makeOrder, cX3_makeOrder, 3, (some .int), 3, false, 2, [], [], 5, 107),
  (yX3_addByNumbers, cX3_addByNumbers, 3, none, 3, false, 1, [], [], 1, 22),
  (yX3_addByRank, cX3_addByRank, 5, none, 3, false, 2, [], [], 1, 22),
  (yX3_addReturning, cX3_addReturning, 3, none, 3, false, 1, [], [], 4, 85),
  (yX4_init, cX4_init, 4, none, 4, false, 3, [], [], 1, 20),
  (yX4_penaltiesOf, cX4_penaltiesOf, 2, (some .int), 4, false, 1, [], [], 1, 21),
  (yX4_totalOf, cX4_totalOf, 2, (some .int), 4, false, 1, [], [], 2, 45),
  (yX4_totalFromCard, cX4_totalFromCard, 2, (some .int), 4, false, 1, [], [], 5, 115),
  (yX4_reckon, cX4_reckon, 4, none, 4, false, 1, [], [], 3, 70),
  (yX4_placeOf, cX4_placeOf, 2, (some .int), 4, false, 1, [], [], 0, 0),
  (yX4_carAt, cX4_carAt, 3, (some .int), 4, false, 1, [], [], 0, 0),
  (yX4_isAhead, cX4_isAhead, 4, (some .boolean), 4, false, 2, [], [], 2, 47),
  (yX5_init, cX5_init, 1, none, 5, false, 0, [], [], 1, 20),
  (yX5_isFull, cX5_isFull, 1, (some .boolean), 5, false, 0, [], [], 0, 0),
  (yX5_note, cX5_note, 6, none, 5, false, 2, [], [], 1, 20),
  (yX5_end, cX5_end, 1, (some .int), 5, false, 0, [], [], 0, 0),
  (yX5_sumOf, cX5_sumOf, 6, (some .int), 5, false, 1, [], [], 0, 0),
  (yX5_carAt, cX5_carAt, 3, (some .int), 5, false, 1, [], [], 3, 75),
  (yX5_countAhead, cX5_countAhead, 4, (some .int), 5, false, 1, [], [], 2, 52),
  (yX5_isAhead, cX5_isAhead, 8, (some .boolean), 5, false, 2, [], [], 1, 25),
  (yX6_init, cX6_init, 4, none, 6, false, 3, [], [], 1, 23)]
def mtab2 : List rM := [(yX6_tell, cX6_tell, 5, none, 6, false, 4, [], [], 5, 119),
  (yX6_hold, cX6_hold, 4, (some .int), 6, false, 3, [], [], 5, 119),
  (yX6_grant, cX6_grant, 4, (some .int), 6, false, 3, [], [], 5, 119),
  (yX6_timeOf, cX6_timeOf, 3, (some .int), 6, false, 2, [], [], 0, 0),
  (yX6_sumOf, cX6_sumOf, 4, (some .int), 6, false, 1, [], [], 1, 22),
  (yX6_compareTimes, cX6_compareTimes, 6, (some .int), 6, false, 2, [], [], 1, 22),
  (yX6_reckonAll, cX6_reckonAll, 2, none, 6, false, 0, [], [], 5, 119),
  (yX6_reckon, cX6_reckon, 5, none, 6, false, 1, [], [], 4, 95),
  (yX6_reckonTime, cX6_reckonTime, 4, (some .int), 6, false, 2, [], [], 3, 72),
  (yX6_reckonOwnTimes, cX6_reckonOwnTimes, 6, none, 6, false, 1, [], [], 3, 65),
  (yX6_beamLead, cX6_beamLead, 6, (some .int), 6, false, 1, [], [], 1, 22),
  (yX6_notionalTime, cX6_notionalTime, 8, (some .int), 6, false, 2, [], [], 2, 45),
  (yX6_freeTime, cX6_freeTime, 3, (some .int), 6, false, 2, [], [], 0, 0),
  (yX7_init, cX7_init, 1, none, 7, false, 0, [], [], 1, 20),
  (yX7_takes, cX7_takes, 3, (some .boolean), 7, false, 2, [], [], 0, 0),
  (yX7_add, cX7_add, 3, (some .int), 7, false, 2, [], [], 0, 0),
  (yX7_check, cX7_check, 4, (some .int), 7, false, 2, [], [], 0, 0),
  (yX7_penaltiesOf, cX7_penaltiesOf, 2, (some .int), 7, false, 1, [], [], 0, 0),
  (yX7_penaltiesFromTyres, cX7_penaltiesFromTyres, 4, (some .int), 7, false, 1, [], [], 0, 0),
  (yX8_init, cX8_init, 1, none, 8, false, 0, [], [], 3, 70),
  (yX8_item, cX8_item, 3, (some .int), 8, false, 2, [], [], 7, 112),
  (yX8_open, cX8_open, 3, (some .int), 8, false, 2, [], [], 7, 129),
  (yX8_starts, cX8_starts, 3, (some .int), 8, false, 2, [], [], 7, 112),
  (yX8_due, cX8_due, 3, (some .int), 8, false, 2, [], [], 7, 111),
  (yX8_stamp, cX8_stamp, 4, (some .int), 8, false, 3, [], [], 7, 116),
  (yX8_delay, cX8_delay, 6, (some .int), 8, false, 3, [], [], 7, 112),
  (yX8_finish, cX8_finish, 5, none, 8, false, 4, [], [], 7, 143),
  (yX8_held, cX8_held, 4, (some .int), 8, false, 3, [], [], 7, 142),
  (yX8_award, cX8_award, 4, (some .int), 8, false, 3, [], [], 7, 142),
  (yX8_time, cX8_time, 3, (some .int), 8, false, 2, [], [], 7, 112)]
def mtab3 : List rM := [(yX8_allocate, cX8_allocate, 3, (some .int), 8, false, 2, [], [], 7, 112),
  (yX8_seen, cX8_seen, 3, (some .int), 8, false, 2, [], [], 7, 112),
  (yX8_retire, cX8_retire, 3, none, 8, false, 2, [], [], 7, 110),
  (yX8_car, cX8_car, 3, (some .int), 8, false, 2, [], [], 7, 112),
  (yX8_totalAnew, cX8_totalAnew, 2, (some .int), 8, false, 1, [], [], 7, 140),
  (yX8_ranked, cX8_ranked, 2, (some .int), 8, false, 1, [], [], 7, 112),
  (yX8_close, cX8_close, 2, (some .int), 8, false, 0, [], [], 6, 93),
  (yX8_points, cX8_points, 2, (some .int), 8, false, 1, [], [], 7, 110),
  (yX8_table, cX8_table, 2, (some .int), 8, false, 1, [], [], 7, 112),
  (yX8_needCar, cX8_needCar, 1, none, 8, true, 1, [], [], 6, 90),
  (yX8_needItem, cX8_needItem, 2, none, 8, false, 1, [], [], 6, 90),
  (yX8_needRange, cX8_needRange, 3, none, 8, true, 3, [], [], 6, 90),
  (yX8_needKind, cX8_needKind, 3, none, 8, false, 2, [], [], 6, 90),
  (yX8_needControl, cX8_needControl, 2, none, 8, false, 1, [], [], 6, 90),
  (yX8_needStart, cX8_needStart, 3, none, 8, false, 2, [], [], 6, 90),
  (yX9_init, cX9_init, 1, none, 9, false, 0, [], [], 1, 21),
  (yX9_begins, cX9_begins, 2, none, 9, false, 0, [], [], 0, 0),
  (yX9_thrown, cX9_thrown, 1, (some .int), 9, false, 0, [], [], 0, 0),
  (yX9_holds, cX9_holds, 2, (some .boolean), 9, false, 1, [], [], 0, 0),
  (yX9_isIn, cX9_isIn, 3, (some .boolean), 9, true, 3, [], [], 0, 0),
  (yX9_isCar, cX9_isCar, 1, (some .boolean), 9, true, 1, [], [], 1, 22),
  (yX9_isItem, cX9_isItem, 2, (some .boolean), 9, false, 1, [], [], 1, 22),
  (yX9_canAdd, cX9_canAdd, 4, (some .boolean), 9, false, 1, [], [], 0, 0),
  (yX9_item, cX9_item, 4, (some .int), 9, false, 2, [], [], 1, 23),
  (yX9_areOpenAhead, cX9_areOpenAhead, 4, (some .boolean), 9, false, 1, [], [], 0, 0),
  (yX9_joins, cX9_joins, 3, none, 9, false, 2, [], [], 0, 0),
  (yX9_open, cX9_open, 8, (some .int), 9, false, 2, [], [], 9, 216),
  (yX9_starts, cX9_starts, 5, (some .int), 9, false, 2, [], [], 2, 43),
  (yX9_ahead, cX9_ahead, 2, (some .int), 9, false, 1, [], [], 0, 0),
  (yX9_legOf, cX9_legOf, 3, (some .int), 9, false, 1, [], [], 0, 0)]
def mtab4 : List rM := [(yX9_placeIn, cX9_placeIn, 5, (some .int), 9, false, 2, [], [], 0, 0),
  (yX9_dueAt, cX9_dueAt, 5, (some .int), 9, false, 2, [], [], 1, 24),
  (yX9_due, cX9_due, 4, (some .int), 9, false, 2, [], [], 2, 48),
  (yX9_stamp, cX9_stamp, 9, (some .int), 9, false, 3, [], [], 2, 48),
  (yX9_delay, cX9_delay, 10, (some .int), 9, false, 3, [], [], 2, 43),
  (yX9_startOf, cX9_startOf, 4, (some .int), 9, false, 2, [], [], 0, 0),
  (yX9_floor, cX9_floor, 2, (some .int), 9, true, 2, [], [], 0, 0),
  (yX9_meanOf, cX9_meanOf, 6, (some .int), 9, false, 1, [], [], 1, 21),
  (yX9_ownTime, cX9_ownTime, 5, (some .int), 9, false, 2, [], [], 2, 46),
  (yX9_nextTime, cX9_nextTime, 7, (some .int), 9, false, 3, [], [], 3, 70),
  (yX9_notional, cX9_notional, 6, (some .int), 9, false, 2, [], [], 4, 96),
  (yX9_timeOf, cX9_timeOf, 4, (some .int), 9, false, 2, [], [], 5, 121),
  (yX9_wrong, cX9_wrong, 5, (some .int), 9, false, 3, [], [], 2, 43),
  (yX9_finish, cX9_finish, 6, none, 9, false, 4, [], [], 3, 67),
  (yX9_held, cX9_held, 4, (some .int), 9, false, 3, [], [], 6, 144),
  (yX9_award, cX9_award, 4, (some .int), 9, false, 3, [], [], 6, 144),
  (yX9_time, cX9_time, 4, (some .int), 9, false, 2, [], [], 6, 144),
  (yX9_allocate, cX9_allocate, 6, (some .int), 9, false, 2, [], [], 2, 42),
  (yX9_seen, cX9_seen, 5, (some .int), 9, false, 2, [], [], 2, 42),
  (yX9_retire, cX9_retire, 4, none, 9, false, 2, [], [], 2, 42),
  (yX9_bestOf, cX9_bestOf, 5, (some .int), 9, false, 1, [], [], 6, 144),
  (yX9_totalOf, cX9_totalOf, 6, (some .int), 9, false, 1, [], [], 7, 168),
  (yX9_isRanked, cX9_isRanked, 2, (some .boolean), 9, false, 1, [], [], 0, 0),
  (yX9_isAhead, cX9_isAhead, 7, (some .boolean), 9, false, 2, [], [], 6, 144),
  (yX9_laysRanks, cX9_laysRanks, 4, none, 9, false, 1, [], [], 8, 193),
  (yX9_withRank, cX9_withRank, 4, (some .int), 9, false, 1, [], [], 0, 0),
  (yX9_car, cX9_car, 3, (some .int), 9, false, 2, [], [], 9, 216),
  (yX9_totalAnew, cX9_totalAnew, 2, (some .int), 9, false, 1, [], [], 8, 193),
  (yX9_ranked, cX9_ranked, 2, (some .int), 9, false, 1, [], [], 9, 216),
  (yX9_close, cX9_close, 2, (some .int), 9, false, 0, [], [], 9, 216)]
def mtab5 : List rM := [(yX9_pointsFor, cX9_pointsFor, 1, (some .int), 9, true, 1, [], [], 0, 0),
  (yX9_sumOf, cX9_sumOf, 6, (some .int), 9, false, 1, [], [], 1, 20),
  (yX9_points, cX9_points, 2, (some .int), 9, false, 1, [], [], 2, 45),
  (yX9_often, cX9_often, 5, (some .int), 9, false, 2, [], [], 0, 0),
  (yX9_isBetter, cX9_isBetter, 5, (some .boolean), 9, false, 2, [], [], 2, 45),
  (yX9_table, cX9_table, 6, (some .int), 9, false, 1, [], [], 3, 69),
  (yL_item, cL_item, 5, (some .int), 10, true, 4, [(0, 10, 13, 13), (0, 10, 17, 15)], [1, 0], 8, 134),
  (yL_open, cL_open, 5, (some .int), 10, true, 4, [(0, 10, 13, 20), (0, 10, 17, 13), (0, 10, 21, 15)], [2, 1, 0], 8, 151),
  (yL_starts, cL_starts, 5, (some .int), 10, true, 4, [(0, 10, 13, 20), (0, 10, 17, 13)], [2, 1], 8, 134),
  (yL_due, cL_due, 5, (some .int), 10, true, 4, [(0, 10, 13, 20), (0, 10, 17, 13)], [2, 1], 8, 133),
  (yL_stamp, cL_stamp, 6, (some .int), 10, true, 5, [(0, 12, 15, 20), (0, 12, 19, 13), (0, 12, 23, 15)], [2, 1, 0], 8, 139),
  (yL_delay, cL_delay, 6, (some .int), 10, true, 5, [(0, 12, 15, 20), (0, 12, 19, 13), (0, 12, 23, 15)], [2, 1, 0], 8, 137),
  (yL_finish, cL_finish, 6, (some .int), 10, true, 5, [(0, 9, 12, 20), (0, 9, 16, 13), (0, 9, 20, 15)], [2, 1, 0], 8, 167),
  (yL_held, cL_held, 6, (some .int), 10, true, 5, [(0, 12, 15, 20), (0, 12, 19, 13), (0, 12, 23, 15)], [2, 1, 0], 8, 165),
  (yL_award, cL_award, 6, (some .int), 10, true, 5, [(0, 12, 15, 20), (0, 12, 19, 13), (0, 12, 23, 15)], [2, 1, 0], 8, 165),
  (yL_time, cL_time, 5, (some .int), 10, true, 4, [(0, 10, 13, 20), (0, 10, 17, 13)], [2, 1], 8, 134),
  (yL_allocate, cL_allocate, 5, (some .int), 10, true, 4, [(0, 10, 13, 20), (0, 10, 17, 13), (0, 10, 21, 15)], [2, 1, 0], 8, 134),
  (yL_seen, cL_seen, 5, (some .int), 10, true, 4, [(0, 10, 13, 20), (0, 10, 17, 13)], [2, 1], 8, 134),
  (yL_retire, cL_retire, 4, (some .int), 10, true, 3, [(0, 6, 9, 20), (0, 6, 12, 15)], [2, 0], 8, 132),
  (yL_car, cL_car, 5, (some .int), 10, true, 4, [(0, 10, 13, 20), (0, 10, 17, 13)], [2, 1], 8, 134),
  (yL_totalAnew, cL_totalAnew, 4, (some .int), 10, true, 3, [(0, 9, 12, 20)], [2], 8, 161),
  (yL_ranked, cL_ranked, 4, (some .int), 10, true, 3, [(0, 9, 12, 13)], [1], 8, 133),
  (yL_close, cL_close, 3, (some .int), 10, true, 2, [(0, 8, 11, 15)], [0], 7, 114),
  (yL_points, cL_points, 4, (some .int), 10, true, 3, [(0, 9, 12, 20)], [2], 8, 131),
  (yL_table, cL_table, 4, (some .int), 10, true, 3, [(0, 9, 12, 13)], [1], 8, 133),
  (yL_law, cL_law, 7, (some .boolean), 10, true, 1, [], [], 10, 243),
  (yJ7_fill_53178, cJ7_fill_53178, 4, none, 11, true, 2, [], [], 0, 0),
  (yJ9_floorDiv_7cf53, cJ9_floorDiv_7cf53, 3, (some .int), 12, true, 2, [], [], 0, 0),
  (yJ9_max_7cf53, cJ9_max_7cf53, 2, (some .int), 12, true, 2, [], [], 0, 0)]
def mdum : rM := (yL_law, cL_law, 0, none, 0, false, 0, [], [], 0, 0)
def mi (y : Nat) : rM := match y / 30 with
  | 0 => mtab0.getD (y % 30) mdum
  | 1 => mtab1.getD (y % 30) mdum
  | 2 => mtab2.getD (y % 30) mdum
  | 3 => mtab3.getD (y % 30) mdum
  | 4 => mtab4.getD (y % 30) mdum
  | 5 => mtab5.getD (y % 30) mdum
  | _ => mdum
def my (y : Nat) : MethodName := (mi y).1
def mb (y : Nat) : ByteArray := (mi y).2.1
def ml (y : Nat) : Nat := (mi y).2.2.1
def mr (y : Nat) : Option FieldType := (mi y).2.2.2.1
def ow (y : Nat) : Nat := (mi y).2.2.2.2.1
def mst (y : Nat) : Bool := (mi y).2.2.2.2.2.1
def mna (y : Nat) : Nat := (mi y).2.2.2.2.2.2.1
def mh (y : Nat) : List (Nat × Nat × Nat × Nat) := (mi y).2.2.2.2.2.2.2.1
def mhc (y : Nat) : List Nat := (mi y).2.2.2.2.2.2.2.2.1
def fr (y : Nat) : Nat := (mi y).2.2.2.2.2.2.2.2.2.1
def lo (y : Nat) : Nat := (mi y).2.2.2.2.2.2.2.2.2.2
def asc {α : Type} : List (Nat × Nat × α) → Nat → Nat → Option α
  | [], _, _ => none
  | q :: t, o, i => if q.1 = o then (if q.2.1 = i then some q.2.2 else asc t o i) else asc t o i
theorem asc_mem {α : Type} : ∀ (t : List (Nat × Nat × α)) (o i : Nat) (v : α), asc t o i = some v → (o, i, v) ∈ t
  | [], _, _, _, h => by simp [asc] at h
  | q :: t, o, i, v, h => by
    unfold asc at h
    split at h
    · rename_i h1
      split at h
      · rename_i h2
        cases h
        rw [← h1, ← h2]
        exact List.mem_cons_self
      · exact List.mem_cons_of_mem _ (asc_mem t o i v h)
    · exact List.mem_cons_of_mem _ (asc_mem t o i v h)
def isNestW : Cond → Bool
  | .fieldLinkNest .. => true
  | .methodLinkNest .. => true
  | .arrayClass _ => true
  | _ => false
/-- words that hold on, whatever is linked later -/
def gw (w : Cond) : Bool := isNestW w || (w.onTables && w.keepsFace)
theorem gw_at {args a' : Array Value} {s U : State} {w : Cond} (hW : s.WarmedH U.vm) (hg : gw w = true) (h : w.before args s = true) : w.before a' U = true := by
  have key : w.onTables = true → w.keepsFace = true → w.before a' U = true := fun h1 h2 => by
    have h3 := Cond.before_shiftedFace (State.Shifted.of_warmed hW) w h2 h
    have h4 := Cond.onTables_vm (A := args) (A' := a') (U := s) (U' := U) U.vm w h1
    rw [h3] at h4
    rw [State.setVm_self] at h4
    exact h4.symm
  unfold gw at hg
  rcases (Bool.or_eq_true _ _).mp hg with h1 | h1
  · cases w <;> simp only [isNestW] at h1 <;> first | exact absurd h1 Bool.false_ne_true | skip
    · exact va_Nw.use rfl (va_Nw.warmM hW (va_Nw.of rfl h))
    · exact va_Nw.use rfl (va_Nw.warmF hW (va_Nw.of rfl h))
    · exact word_at hW (Or.inr ⟨_, rfl⟩) h
  · rw [Bool.and_eq_true] at h1
    exact key h1.1 h1.2
def TBL : List Cond := lw_tbl.filter gw
theorem TBL_at {args a' : Array Value} {s U : State} (hts : ∀ w ∈ TBL, w.before args s = true) (hW : s.WarmedH U.vm) : ∀ w ∈ TBL, w.before a' U = true := fun w h => gw_at hW (List.mem_filter.mp h).2 (hts w h)
theorem tb {w : Cond} (h : w ∈ lw_tbl) (g : gw w = true) : w ∈ TBL := List.mem_filter.mpr ⟨h, g⟩
theorem tm0 (w : Cond) (h : w ∈ k2_sels lw_privs) : w ∈ lw_tbl := List.mem_append_left _ h
theorem tm1 (w : Cond) (h : w ∈ tables_1_1) : w ∈ lw_tbl := List.mem_append_right _ (List.mem_append_left _ h)
theorem tm2 (w : Cond) (h : w ∈ tables_1_2) : w ∈ lw_tbl := List.mem_append_right _ (List.mem_append_right _ (List.mem_append_left _ h))
theorem tm3 (w : Cond) (h : w ∈ tables_1_3) : w ∈ lw_tbl := List.mem_append_right _ (List.mem_append_right _ (List.mem_append_right _ (List.mem_append_left _ h)))
theorem tm4 (w : Cond) (h : w ∈ tables_1_4) : w ∈ lw_tbl := List.mem_append_right _ (List.mem_append_right _ (List.mem_append_right _ (List.mem_append_right _ (List.mem_append_left _ h))))
theorem tm5 (w : Cond) (h : w ∈ tables_1_5) : w ∈ lw_tbl := List.mem_append_right _ (List.mem_append_right _ (List.mem_append_right _ (List.mem_append_right _ (List.mem_append_right _ h))))
/-- what the tables say of a method that is called -/
def codeW (y : Nat) : Cond := match mh y with
  | [] => .code (my y) (mb y) (ml y) (mr y)
  | q :: t => .codeWith (my y) (mb y) (ml y) (mr y) (q :: t)
def MF (y : Nat) : Prop := codeW y ∈ TBL ∧ Cond.initialized (my y).cls ∈ TBL ∧ (mst y = true → Cond.static (my y) ∈ TBL) ∧ (mst y = false → Cond.instanceMethod (my y) ∈ TBL ∧ ((my y).name = "<init>" ∨ Cond.selects (my y).cls (my y) (my y) ∈ TBL)) ∧ plainFor (my y) = true ∧ (my y).cls = rn (ow y) ∧ ((my y).cls ≠ "java/lang/invoke/MethodHandle" ∧ (my y).cls ≠ "java/lang/invoke/VarHandle") ∧ (parseMethodDescriptor (my y).desc).map (fun d => d.parameters.length) = some (mna y)
theorem mfS {y : Nat} (h : mst y = true) {Q : Prop} : mst y = false → Q := fun h' => by rw [h] at h'; cases h'
theorem mfV {y : Nat} (h : mst y = false) {Q : Prop} : mst y = true → Q := fun h' => by rw [h] at h'; cases h'

theorem mf_0 : MF 0 := ⟨tb (tm1 _ (List.mem_of_getElem? (i := 83) rfl)) rfl, tb (tm1 _ (List.mem_of_getElem? (i := 7) rfl)) rfl, mfV rfl, fun _ => ⟨tb (tm1 _ (List.mem_of_getElem? (i := 82) rfl)) rfl, Or.inl rfl⟩, by decide +kernel, by decide +kernel, by decide +kernel, by decide +kernel⟩
theorem mf_1 : MF 1 := ⟨tb (tm2 _ (List.mem_of_getElem? (i := 172) rfl)) rfl, tb (tm1 _ (List.mem_of_getElem? (i := 7) rfl)) rfl, mfV rfl, fun _ => ⟨tb (tm2 _ (List.mem_of_getElem? (i := 170) rfl)) rfl, Or.inr (tb (tm2 _ (List.mem_of_getElem? (i := 171) rfl)) rfl)⟩, by decide +kernel, by decide +kernel, by decide +kernel, by decide +kernel⟩
theorem mf_2 : MF 2 := ⟨tb (tm3 _ (List.mem_of_getElem? (i := 50) rfl)) rfl, tb (tm1 _ (List.mem_of_getElem? (i := 7) rfl)) rfl, mfV rfl, fun _ => ⟨tb (tm3 _ (List.mem_of_getElem? (i := 48) rfl)) rfl, Or.inr (tb (tm3 _ (List.mem_of_getElem? (i := 49) rfl)) rfl)⟩, by decide +kernel, by decide +kernel, by decide +kernel, by decide +kernel⟩
theorem mf_3 : MF 3 := ⟨tb (tm3 _ (List.mem_of_getElem? (i := 80) rfl)) rfl, tb (tm1 _ (List.mem_of_getElem? (i := 7) rfl)) rfl, mfV rfl, fun _ => ⟨tb (tm3 _ (List.mem_of_getElem? (i := 78) rfl)) rfl, Or.inr (tb (tm3 _ (List.mem_of_getElem? (i := 79) rfl)) rfl)⟩, by decide +kernel, by decide +kernel, by decide +kernel, by decide +kernel⟩
theorem mf_4 : MF 4 := ⟨tb (tm3 _ (List.mem_of_getElem? (i := 87) rfl)) rfl, tb (tm1 _ (List.mem_of_getElem? (i := 7) rfl)) rfl, mfV rfl, fun _ => ⟨tb (tm3 _ (List.mem_of_getElem? (i := 85) rfl)) rfl, Or.inr (tb (tm3 _ (List.mem_of_getElem? (i := 86) rfl)) rfl)⟩, by decide +kernel, by decide +kernel, by decide +kernel, by decide +kernel⟩
theorem mf_5 : MF 5 := ⟨tb (tm3 _ (List.mem_of_getElem? (i := 91) rfl)) rfl, tb (tm1 _ (List.mem_of_getElem? (i := 7) rfl)) rfl, mfV rfl, fun _ => ⟨tb (tm3 _ (List.mem_of_getElem? (i := 90) rfl)) rfl, Or.inr (tb (tm0 _ (List.mem_of_getElem? (i := 8) rfl)) rfl)⟩, by decide +kernel, by decide +kernel, by decide +kernel, by decide +kernel⟩
theorem mf_6 : MF 6 := ⟨tb (tm4 _ (List.mem_of_getElem? (i := 35) rfl)) rfl, tb (tm1 _ (List.mem_of_getElem? (i := 7) rfl)) rfl, mfV rfl, fun _ => ⟨tb (tm4 _ (List.mem_of_getElem? (i := 33) rfl)) rfl, Or.inr (tb (tm4 _ (List.mem_of_getElem? (i := 34) rfl)) rfl)⟩, by decide +kernel, by decide +kernel, by decide +kernel, by decide +kernel⟩
theorem mf_7 : MF 7 := ⟨tb (tm3 _ (List.mem_of_getElem? (i := 108) rfl)) rfl, tb (tm1 _ (List.mem_of_getElem? (i := 7) rfl)) rfl, mfV rfl, fun _ => ⟨tb (tm3 _ (List.mem_of_getElem? (i := 106) rfl)) rfl, Or.inr (tb (tm3 _ (List.mem_of_getElem? (i := 107) rfl)) rfl)⟩, by decide +kernel, by decide +kernel, by decide +kernel, by decide +kernel⟩
theorem mf_8 : MF 8 := ⟨tb (tm3 _ (List.mem_of_getElem? (i := 128) rfl)) rfl, tb (tm1 _ (List.mem_of_getElem? (i := 7) rfl)) rfl, mfV rfl, fun _ => ⟨tb (tm3 _ (List.mem_of_getElem? (i := 126) rfl)) rfl, Or.inr (tb (tm3 _ (List.mem_of_getElem? (i := 127) rfl)) rfl)⟩, by decide +kernel, by decide +kernel, by decide +kernel, by decide +kernel⟩
theorem mf_9 : MF 9 := ⟨tb (tm2 _ (List.mem_of_getElem? (i := 205) rfl)) rfl, tb (tm1 _ (List.mem_of_getElem? (i := 7) rfl)) rfl, mfV rfl, fun _ => ⟨tb (tm2 _ (List.mem_of_getElem? (i := 203) rfl)) rfl, Or.inr (tb (tm2 _ (List.mem_of_getElem? (i := 204) rfl)) rfl)⟩, by decide +kernel, by decide +kernel, by decide +kernel, by decide +kernel⟩
theorem mf_10 : MF 10 := ⟨tb (tm4 _ (List.mem_of_getElem? (i := 7) rfl)) rfl, tb (tm1 _ (List.mem_of_getElem? (i := 7) rfl)) rfl, mfV rfl, fun _ => ⟨tb (tm4 _ (List.mem_of_getElem? (i := 5) rfl)) rfl, Or.inr (tb (tm4 _ (List.mem_of_getElem? (i := 6) rfl)) rfl)⟩, by decide +kernel, by decide +kernel, by decide +kernel, by decide +kernel⟩
theorem mf_11 : MF 11 := ⟨tb (tm2 _ (List.mem_of_getElem? (i := 181) rfl)) rfl, tb (tm1 _ (List.mem_of_getElem? (i := 7) rfl)) rfl, mfV rfl, fun _ => ⟨tb (tm2 _ (List.mem_of_getElem? (i := 179) rfl)) rfl, Or.inr (tb (tm2 _ (List.mem_of_getElem? (i := 180) rfl)) rfl)⟩, by decide +kernel, by decide +kernel, by decide +kernel, by decide +kernel⟩
theorem mf_12 : MF 12 := ⟨tb (tm4 _ (List.mem_of_getElem? (i := 12) rfl)) rfl, tb (tm1 _ (List.mem_of_getElem? (i := 7) rfl)) rfl, mfV rfl, fun _ => ⟨tb (tm4 _ (List.mem_of_getElem? (i := 10) rfl)) rfl, Or.inr (tb (tm4 _ (List.mem_of_getElem? (i := 11) rfl)) rfl)⟩, by decide +kernel, by decide +kernel, by decide +kernel, by decide +kernel⟩
theorem mf_13 : MF 13 := ⟨tb (tm2 _ (List.mem_of_getElem? (i := 177) rfl)) rfl, tb (tm1 _ (List.mem_of_getElem? (i := 7) rfl)) rfl, mfV rfl, fun _ => ⟨tb (tm2 _ (List.mem_of_getElem? (i := 175) rfl)) rfl, Or.inr (tb (tm2 _ (List.mem_of_getElem? (i := 176) rfl)) rfl)⟩, by decide +kernel, by decide +kernel, by decide +kernel, by decide +kernel⟩
theorem mf_14 : MF 14 := ⟨tb (tm2 _ (List.mem_of_getElem? (i := 168) rfl)) rfl, tb (tm1 _ (List.mem_of_getElem? (i := 7) rfl)) rfl, mfV rfl, fun _ => ⟨tb (tm2 _ (List.mem_of_getElem? (i := 166) rfl)) rfl, Or.inr (tb (tm2 _ (List.mem_of_getElem? (i := 167) rfl)) rfl)⟩, by decide +kernel, by decide +kernel, by decide +kernel, by decide +kernel⟩
theorem mf_15 : MF 15 := ⟨tb (tm3 _ (List.mem_of_getElem? (i := 235) rfl)) rfl, tb (tm1 _ (List.mem_of_getElem? (i := 7) rfl)) rfl, mfV rfl, fun _ => ⟨tb (tm3 _ (List.mem_of_getElem? (i := 233) rfl)) rfl, Or.inr (tb (tm3 _ (List.mem_of_getElem? (i := 234) rfl)) rfl)⟩, by decide +kernel, by decide +kernel, by decide +kernel, by decide +kernel⟩
theorem mf_16 : MF 16 := ⟨tb (tm3 _ (List.mem_of_getElem? (i := 9) rfl)) rfl, tb (tm1 _ (List.mem_of_getElem? (i := 7) rfl)) rfl, mfV rfl, fun _ => ⟨tb (tm3 _ (List.mem_of_getElem? (i := 7) rfl)) rfl, Or.inr (tb (tm3 _ (List.mem_of_getElem? (i := 8) rfl)) rfl)⟩, by decide +kernel, by decide +kernel, by decide +kernel, by decide +kernel⟩
theorem mf_17 : MF 17 := ⟨tb (tm3 _ (List.mem_of_getElem? (i := 14) rfl)) rfl, tb (tm1 _ (List.mem_of_getElem? (i := 7) rfl)) rfl, mfV rfl, fun _ => ⟨tb (tm3 _ (List.mem_of_getElem? (i := 12) rfl)) rfl, Or.inr (tb (tm3 _ (List.mem_of_getElem? (i := 13) rfl)) rfl)⟩, by decide +kernel, by decide +kernel, by decide +kernel, by decide +kernel⟩
theorem mf_18 : MF 18 := ⟨tb (tm1 _ (List.mem_of_getElem? (i := 48) rfl)) rfl, tb (tm1 _ (List.mem_of_getElem? (i := 4) rfl)) rfl, mfV rfl, fun _ => ⟨tb (tm1 _ (List.mem_of_getElem? (i := 47) rfl)) rfl, Or.inl rfl⟩, by decide +kernel, by decide +kernel, by decide +kernel, by decide +kernel⟩
theorem mf_19 : MF 19 := ⟨tb (tm2 _ (List.mem_of_getElem? (i := 91) rfl)) rfl, tb (tm1 _ (List.mem_of_getElem? (i := 4) rfl)) rfl, mfV rfl, fun _ => ⟨tb (tm2 _ (List.mem_of_getElem? (i := 89) rfl)) rfl, Or.inr (tb (tm2 _ (List.mem_of_getElem? (i := 90) rfl)) rfl)⟩, by decide +kernel, by decide +kernel, by decide +kernel, by decide +kernel⟩
theorem mf_20 : MF 20 := ⟨tb (tm2 _ (List.mem_of_getElem? (i := 193) rfl)) rfl, tb (tm1 _ (List.mem_of_getElem? (i := 4) rfl)) rfl, mfV rfl, fun _ => ⟨tb (tm2 _ (List.mem_of_getElem? (i := 191) rfl)) rfl, Or.inr (tb (tm2 _ (List.mem_of_getElem? (i := 192) rfl)) rfl)⟩, by decide +kernel, by decide +kernel, by decide +kernel, by decide +kernel⟩
theorem mf_21 : MF 21 := ⟨tb (tm2 _ (List.mem_of_getElem? (i := 87) rfl)) rfl, tb (tm1 _ (List.mem_of_getElem? (i := 4) rfl)) rfl, mfV rfl, fun _ => ⟨tb (tm2 _ (List.mem_of_getElem? (i := 85) rfl)) rfl, Or.inr (tb (tm2 _ (List.mem_of_getElem? (i := 86) rfl)) rfl)⟩, by decide +kernel, by decide +kernel, by decide +kernel, by decide +kernel⟩
theorem mf_22 : MF 22 := ⟨tb (tm3 _ (List.mem_of_getElem? (i := 60) rfl)) rfl, tb (tm1 _ (List.mem_of_getElem? (i := 4) rfl)) rfl, mfV rfl, fun _ => ⟨tb (tm3 _ (List.mem_of_getElem? (i := 58) rfl)) rfl, Or.inr (tb (tm3 _ (List.mem_of_getElem? (i := 59) rfl)) rfl)⟩, by decide +kernel, by decide +kernel, by decide +kernel, by decide +kernel⟩
theorem mf_23 : MF 23 := ⟨tb (tm2 _ (List.mem_of_getElem? (i := 83) rfl)) rfl, tb (tm1 _ (List.mem_of_getElem? (i := 4) rfl)) rfl, mfV rfl, fun _ => ⟨tb (tm2 _ (List.mem_of_getElem? (i := 81) rfl)) rfl, Or.inr (tb (tm2 _ (List.mem_of_getElem? (i := 82) rfl)) rfl)⟩, by decide +kernel, by decide +kernel, by decide +kernel, by decide +kernel⟩
theorem mf_24 : MF 24 := ⟨tb (tm2 _ (List.mem_of_getElem? (i := 111) rfl)) rfl, tb (tm1 _ (List.mem_of_getElem? (i := 4) rfl)) rfl, mfV rfl, fun _ => ⟨tb (tm2 _ (List.mem_of_getElem? (i := 109) rfl)) rfl, Or.inr (tb (tm2 _ (List.mem_of_getElem? (i := 110) rfl)) rfl)⟩, by decide +kernel, by decide +kernel, by decide +kernel, by decide +kernel⟩
theorem mf_25 : MF 25 := ⟨tb (tm3 _ (List.mem_of_getElem? (i := 68) rfl)) rfl, tb (tm1 _ (List.mem_of_getElem? (i := 4) rfl)) rfl, mfV rfl, fun _ => ⟨tb (tm3 _ (List.mem_of_getElem? (i := 66) rfl)) rfl, Or.inr (tb (tm3 _ (List.mem_of_getElem? (i := 67) rfl)) rfl)⟩, by decide +kernel, by decide +kernel, by decide +kernel, by decide +kernel⟩
theorem mf_26 : MF 26 := ⟨tb (tm3 _ (List.mem_of_getElem? (i := 64) rfl)) rfl, tb (tm1 _ (List.mem_of_getElem? (i := 4) rfl)) rfl, mfV rfl, fun _ => ⟨tb (tm3 _ (List.mem_of_getElem? (i := 62) rfl)) rfl, Or.inr (tb (tm3 _ (List.mem_of_getElem? (i := 63) rfl)) rfl)⟩, by decide +kernel, by decide +kernel, by decide +kernel, by decide +kernel⟩
theorem mf_27 : MF 27 := ⟨tb (tm2 _ (List.mem_of_getElem? (i := 115) rfl)) rfl, tb (tm1 _ (List.mem_of_getElem? (i := 4) rfl)) rfl, mfV rfl, fun _ => ⟨tb (tm2 _ (List.mem_of_getElem? (i := 113) rfl)) rfl, Or.inr (tb (tm2 _ (List.mem_of_getElem? (i := 114) rfl)) rfl)⟩, by decide +kernel, by decide +kernel, by decide +kernel, by decide +kernel⟩
theorem mf_28 : MF 28 := ⟨tb (tm1 _ (List.mem_of_getElem? (i := 67) rfl)) rfl, tb (tm1 _ (List.mem_of_getElem? (i := 5) rfl)) rfl, mfV rfl, fun _ => ⟨tb (tm1 _ (List.mem_of_getElem? (i := 66) rfl)) rfl, Or.inl rfl⟩, by decide +kernel, by decide +kernel, by decide +kernel, by decide +kernel⟩
theorem mf_29 : MF 29 := ⟨tb (tm2 _ (List.mem_of_getElem? (i := 79) rfl)) rfl, tb (tm1 _ (List.mem_of_getElem? (i := 5) rfl)) rfl, mfV rfl, fun _ => ⟨tb (tm2 _ (List.mem_of_getElem? (i := 77) rfl)) rfl, Or.inr (tb (tm2 _ (List.mem_of_getElem? (i := 78) rfl)) rfl)⟩, by decide +kernel, by decide +kernel, by decide +kernel, by decide +kernel⟩
theorem mf_30 : MF 30 := ⟨tb (tm3 _ (List.mem_of_getElem? (i := 18) rfl)) rfl, tb (tm1 _ (List.mem_of_getElem? (i := 5) rfl)) rfl, mfV rfl, fun _ => ⟨tb (tm3 _ (List.mem_of_getElem? (i := 16) rfl)) rfl, Or.inr (tb (tm3 _ (List.mem_of_getElem? (i := 17) rfl)) rfl)⟩, by decide +kernel, by decide +kernel, by decide +kernel, by decide +kernel⟩
theorem mf_31 : MF 31 := ⟨tb (tm2 _ (List.mem_of_getElem? (i := 221) rfl)) rfl, tb (tm1 _ (List.mem_of_getElem? (i := 5) rfl)) rfl, mfV rfl, fun _ => ⟨tb (tm2 _ (List.mem_of_getElem? (i := 219) rfl)) rfl, Or.inr (tb (tm2 _ (List.mem_of_getElem? (i := 220) rfl)) rfl)⟩, by decide +kernel, by decide +kernel, by decide +kernel, by decide +kernel⟩
theorem mf_32 : MF 32 := ⟨tb (tm2 _ (List.mem_of_getElem? (i := 233) rfl)) rfl, tb (tm1 _ (List.mem_of_getElem? (i := 5) rfl)) rfl, mfV rfl, fun _ => ⟨tb (tm2 _ (List.mem_of_getElem? (i := 231) rfl)) rfl, Or.inr (tb (tm2 _ (List.mem_of_getElem? (i := 232) rfl)) rfl)⟩, by decide +kernel, by decide +kernel, by decide +kernel, by decide +kernel⟩
theorem mf_33 : MF 33 := ⟨tb (tm3 _ (List.mem_of_getElem? (i := 29) rfl)) rfl, tb (tm1 _ (List.mem_of_getElem? (i := 5) rfl)) rfl, mfV rfl, fun _ => ⟨tb (tm3 _ (List.mem_of_getElem? (i := 27) rfl)) rfl, Or.inr (tb (tm3 _ (List.mem_of_getElem? (i := 28) rfl)) rfl)⟩, by decide +kernel, by decide +kernel, by decide +kernel, by decide +kernel⟩
theorem mf_34 : MF 34 := ⟨tb (tm3 _ (List.mem_of_getElem? (i := 55) rfl)) rfl, tb (tm1 _ (List.mem_of_getElem? (i := 5) rfl)) rfl, mfV rfl, fun _ => ⟨tb (tm3 _ (List.mem_of_getElem? (i := 53) rfl)) rfl, Or.inr (tb (tm3 _ (List.mem_of_getElem? (i := 54) rfl)) rfl)⟩, by decide +kernel, by decide +kernel, by decide +kernel, by decide +kernel⟩
theorem mf_35 : MF 35 := ⟨tb (tm1 _ (List.mem_of_getElem? (i := 198) rfl)) rfl, tb (tm1 _ (List.mem_of_getElem? (i := 3) rfl)) rfl, mfV rfl, fun _ => ⟨tb (tm1 _ (List.mem_of_getElem? (i := 197) rfl)) rfl, Or.inl rfl⟩, by decide +kernel, by decide +kernel, by decide +kernel, by decide +kernel⟩
theorem mf_36 : MF 36 := ⟨tb (tm1 _ (List.mem_of_getElem? (i := 43) rfl)) rfl, tb (tm1 _ (List.mem_of_getElem? (i := 3) rfl)) rfl, fun _ => tb (tm1 _ (List.mem_of_getElem? (i := 42) rfl)) rfl, mfS rfl, by decide +kernel, by decide +kernel, by decide +kernel, by decide +kernel⟩
theorem mf_37 : MF 37 := ⟨tb (tm2 _ (List.mem_of_getElem? (i := 75) rfl)) rfl, tb (tm1 _ (List.mem_of_getElem? (i := 3) rfl)) rfl, mfV rfl, fun _ => ⟨tb (tm2 _ (List.mem_of_getElem? (i := 73) rfl)) rfl, Or.inr (tb (tm2 _ (List.mem_of_getElem? (i := 74) rfl)) rfl)⟩, by decide +kernel, by decide +kernel, by decide +kernel, by decide +kernel⟩
theorem mf_38 : MF 38 := ⟨tb (tm2 _ (List.mem_of_getElem? (i := 154) rfl)) rfl, tb (tm1 _ (List.mem_of_getElem? (i := 3) rfl)) rfl, mfV rfl, fun _ => ⟨tb (tm2 _ (List.mem_of_getElem? (i := 152) rfl)) rfl, Or.inr (tb (tm2 _ (List.mem_of_getElem? (i := 153) rfl)) rfl)⟩, by decide +kernel, by decide +kernel, by decide +kernel, by decide +kernel⟩
theorem mf_39 : MF 39 := ⟨tb (tm2 _ (List.mem_of_getElem? (i := 160) rfl)) rfl, tb (tm1 _ (List.mem_of_getElem? (i := 3) rfl)) rfl, mfV rfl, fun _ => ⟨tb (tm2 _ (List.mem_of_getElem? (i := 158) rfl)) rfl, Or.inr (tb (tm2 _ (List.mem_of_getElem? (i := 159) rfl)) rfl)⟩, by decide +kernel, by decide +kernel, by decide +kernel, by decide +kernel⟩
theorem mf_40 : MF 40 := ⟨tb (tm2 _ (List.mem_of_getElem? (i := 225) rfl)) rfl, tb (tm1 _ (List.mem_of_getElem? (i := 3) rfl)) rfl, mfV rfl, fun _ => ⟨tb (tm2 _ (List.mem_of_getElem? (i := 224) rfl)) rfl, Or.inr (tb (tm0 _ (List.mem_of_getElem? (i := 4) rfl)) rfl)⟩, by decide +kernel, by decide +kernel, by decide +kernel, by decide +kernel⟩
theorem mf_41 : MF 41 := ⟨tb (tm2 _ (List.mem_of_getElem? (i := 237) rfl)) rfl, tb (tm1 _ (List.mem_of_getElem? (i := 3) rfl)) rfl, mfV rfl, fun _ => ⟨tb (tm2 _ (List.mem_of_getElem? (i := 236) rfl)) rfl, Or.inr (tb (tm0 _ (List.mem_of_getElem? (i := 5) rfl)) rfl)⟩, by decide +kernel, by decide +kernel, by decide +kernel, by decide +kernel⟩
theorem mf_42 : MF 42 := ⟨tb (tm3 _ (List.mem_of_getElem? (i := 5) rfl)) rfl, tb (tm1 _ (List.mem_of_getElem? (i := 3) rfl)) rfl, mfV rfl, fun _ => ⟨tb (tm3 _ (List.mem_of_getElem? (i := 4) rfl)) rfl, Or.inr (tb (tm0 _ (List.mem_of_getElem? (i := 6) rfl)) rfl)⟩, by decide +kernel, by decide +kernel, by decide +kernel, by decide +kernel⟩
theorem mf_43 : MF 43 := ⟨tb (tm1 _ (List.mem_of_getElem? (i := 175) rfl)) rfl, tb (tm1 _ (List.mem_of_getElem? (i := 10) rfl)) rfl, mfV rfl, fun _ => ⟨tb (tm1 _ (List.mem_of_getElem? (i := 174) rfl)) rfl, Or.inl rfl⟩, by decide +kernel, by decide +kernel, by decide +kernel, by decide +kernel⟩
theorem mf_44 : MF 44 := ⟨tb (tm2 _ (List.mem_of_getElem? (i := 201) rfl)) rfl, tb (tm1 _ (List.mem_of_getElem? (i := 10) rfl)) rfl, mfV rfl, fun _ => ⟨tb (tm2 _ (List.mem_of_getElem? (i := 199) rfl)) rfl, Or.inr (tb (tm2 _ (List.mem_of_getElem? (i := 200) rfl)) rfl)⟩, by decide +kernel, by decide +kernel, by decide +kernel, by decide +kernel⟩
theorem mf_45 : MF 45 := ⟨tb (tm2 _ (List.mem_of_getElem? (i := 185) rfl)) rfl, tb (tm1 _ (List.mem_of_getElem? (i := 10) rfl)) rfl, mfV rfl, fun _ => ⟨tb (tm2 _ (List.mem_of_getElem? (i := 183) rfl)) rfl, Or.inr (tb (tm2 _ (List.mem_of_getElem? (i := 184) rfl)) rfl)⟩, by decide +kernel, by decide +kernel, by decide +kernel, by decide +kernel⟩
theorem mf_46 : MF 46 := ⟨tb (tm4 _ (List.mem_of_getElem? (i := 31) rfl)) rfl, tb (tm1 _ (List.mem_of_getElem? (i := 10) rfl)) rfl, mfV rfl, fun _ => ⟨tb (tm4 _ (List.mem_of_getElem? (i := 29) rfl)) rfl, Or.inr (tb (tm4 _ (List.mem_of_getElem? (i := 30) rfl)) rfl)⟩, by decide +kernel, by decide +kernel, by decide +kernel, by decide +kernel⟩
theorem mf_47 : MF 47 := ⟨tb (tm2 _ (List.mem_of_getElem? (i := 164) rfl)) rfl, tb (tm1 _ (List.mem_of_getElem? (i := 10) rfl)) rfl, mfV rfl, fun _ => ⟨tb (tm2 _ (List.mem_of_getElem? (i := 162) rfl)) rfl, Or.inr (tb (tm2 _ (List.mem_of_getElem? (i := 163) rfl)) rfl)⟩, by decide +kernel, by decide +kernel, by decide +kernel, by decide +kernel⟩
theorem mf_48 : MF 48 := ⟨tb (tm2 _ (List.mem_of_getElem? (i := 229) rfl)) rfl, tb (tm1 _ (List.mem_of_getElem? (i := 10) rfl)) rfl, mfV rfl, fun _ => ⟨tb (tm2 _ (List.mem_of_getElem? (i := 227) rfl)) rfl, Or.inr (tb (tm2 _ (List.mem_of_getElem? (i := 228) rfl)) rfl)⟩, by decide +kernel, by decide +kernel, by decide +kernel, by decide +kernel⟩
theorem mf_49 : MF 49 := ⟨tb (tm3 _ (List.mem_of_getElem? (i := 1) rfl)) rfl, tb (tm1 _ (List.mem_of_getElem? (i := 10) rfl)) rfl, mfV rfl, fun _ => ⟨tb (tm2 _ (List.mem_of_getElem? (i := 239) rfl)) rfl, Or.inr (tb (tm3 _ (List.mem_of_getElem? (i := 0) rfl)) rfl)⟩, by decide +kernel, by decide +kernel, by decide +kernel, by decide +kernel⟩
theorem mf_50 : MF 50 := ⟨tb (tm2 _ (List.mem_of_getElem? (i := 213) rfl)) rfl, tb (tm1 _ (List.mem_of_getElem? (i := 10) rfl)) rfl, mfV rfl, fun _ => ⟨tb (tm2 _ (List.mem_of_getElem? (i := 212) rfl)) rfl, Or.inr (tb (tm0 _ (List.mem_of_getElem? (i := 3) rfl)) rfl)⟩, by decide +kernel, by decide +kernel, by decide +kernel, by decide +kernel⟩
theorem mf_51 : MF 51 := ⟨tb (tm1 _ (List.mem_of_getElem? (i := 31) rfl)) rfl, tb (tm1 _ (List.mem_of_getElem? (i := 2) rfl)) rfl, mfV rfl, fun _ => ⟨tb (tm1 _ (List.mem_of_getElem? (i := 30) rfl)) rfl, Or.inl rfl⟩, by decide +kernel, by decide +kernel, by decide +kernel, by decide +kernel⟩
theorem mf_52 : MF 52 := ⟨tb (tm4 _ (List.mem_of_getElem? (i := 59) rfl)) rfl, tb (tm1 _ (List.mem_of_getElem? (i := 2) rfl)) rfl, mfV rfl, fun _ => ⟨tb (tm4 _ (List.mem_of_getElem? (i := 57) rfl)) rfl, Or.inr (tb (tm4 _ (List.mem_of_getElem? (i := 58) rfl)) rfl)⟩, by decide +kernel, by decide +kernel, by decide +kernel, by decide +kernel⟩
theorem mf_53 : MF 53 := ⟨tb (tm4 _ (List.mem_of_getElem? (i := 64) rfl)) rfl, tb (tm1 _ (List.mem_of_getElem? (i := 2) rfl)) rfl, mfV rfl, fun _ => ⟨tb (tm4 _ (List.mem_of_getElem? (i := 62) rfl)) rfl, Or.inr (tb (tm4 _ (List.mem_of_getElem? (i := 63) rfl)) rfl)⟩, by decide +kernel, by decide +kernel, by decide +kernel, by decide +kernel⟩
theorem mf_54 : MF 54 := ⟨tb (tm4 _ (List.mem_of_getElem? (i := 69) rfl)) rfl, tb (tm1 _ (List.mem_of_getElem? (i := 2) rfl)) rfl, mfV rfl, fun _ => ⟨tb (tm4 _ (List.mem_of_getElem? (i := 67) rfl)) rfl, Or.inr (tb (tm4 _ (List.mem_of_getElem? (i := 68) rfl)) rfl)⟩, by decide +kernel, by decide +kernel, by decide +kernel, by decide +kernel⟩
theorem mf_55 : MF 55 := ⟨tb (tm4 _ (List.mem_of_getElem? (i := 80) rfl)) rfl, tb (tm1 _ (List.mem_of_getElem? (i := 2) rfl)) rfl, mfV rfl, fun _ => ⟨tb (tm4 _ (List.mem_of_getElem? (i := 78) rfl)) rfl, Or.inr (tb (tm4 _ (List.mem_of_getElem? (i := 79) rfl)) rfl)⟩, by decide +kernel, by decide +kernel, by decide +kernel, by decide +kernel⟩
theorem mf_56 : MF 56 := ⟨tb (tm4 _ (List.mem_of_getElem? (i := 93) rfl)) rfl, tb (tm1 _ (List.mem_of_getElem? (i := 2) rfl)) rfl, mfV rfl, fun _ => ⟨tb (tm4 _ (List.mem_of_getElem? (i := 91) rfl)) rfl, Or.inr (tb (tm4 _ (List.mem_of_getElem? (i := 92) rfl)) rfl)⟩, by decide +kernel, by decide +kernel, by decide +kernel, by decide +kernel⟩
theorem mf_57 : MF 57 := ⟨tb (tm4 _ (List.mem_of_getElem? (i := 97) rfl)) rfl, tb (tm1 _ (List.mem_of_getElem? (i := 2) rfl)) rfl, mfV rfl, fun _ => ⟨tb (tm4 _ (List.mem_of_getElem? (i := 96) rfl)) rfl, Or.inr (tb (tm0 _ (List.mem_of_getElem? (i := 16) rfl)) rfl)⟩, by decide +kernel, by decide +kernel, by decide +kernel, by decide +kernel⟩
theorem mf_58 : MF 58 := ⟨tb (tm4 _ (List.mem_of_getElem? (i := 101) rfl)) rfl, tb (tm1 _ (List.mem_of_getElem? (i := 2) rfl)) rfl, mfV rfl, fun _ => ⟨tb (tm4 _ (List.mem_of_getElem? (i := 100) rfl)) rfl, Or.inr (tb (tm0 _ (List.mem_of_getElem? (i := 17) rfl)) rfl)⟩, by decide +kernel, by decide +kernel, by decide +kernel, by decide +kernel⟩
theorem mf_59 : MF 59 := ⟨tb (tm1 _ (List.mem_of_getElem? (i := 116) rfl)) rfl, tb (tm1 _ (List.mem_of_getElem? (i := 8) rfl)) rfl, mfV rfl, fun _ => ⟨tb (tm1 _ (List.mem_of_getElem? (i := 115) rfl)) rfl, Or.inl rfl⟩, by decide +kernel, by decide +kernel, by decide +kernel, by decide +kernel⟩
theorem mf_60 : MF 60 := ⟨tb (tm3 _ (List.mem_of_getElem? (i := 133) rfl)) rfl, tb (tm1 _ (List.mem_of_getElem? (i := 8) rfl)) rfl, mfV rfl, fun _ => ⟨tb (tm3 _ (List.mem_of_getElem? (i := 131) rfl)) rfl, Or.inr (tb (tm3 _ (List.mem_of_getElem? (i := 132) rfl)) rfl)⟩, by decide +kernel, by decide +kernel, by decide +kernel, by decide +kernel⟩
theorem mf_61 : MF 61 := ⟨tb (tm3 _ (List.mem_of_getElem? (i := 176) rfl)) rfl, tb (tm1 _ (List.mem_of_getElem? (i := 8) rfl)) rfl, mfV rfl, fun _ => ⟨tb (tm3 _ (List.mem_of_getElem? (i := 174) rfl)) rfl, Or.inr (tb (tm3 _ (List.mem_of_getElem? (i := 175) rfl)) rfl)⟩, by decide +kernel, by decide +kernel, by decide +kernel, by decide +kernel⟩
theorem mf_62 : MF 62 := ⟨tb (tm3 _ (List.mem_of_getElem? (i := 188) rfl)) rfl, tb (tm1 _ (List.mem_of_getElem? (i := 8) rfl)) rfl, mfV rfl, fun _ => ⟨tb (tm3 _ (List.mem_of_getElem? (i := 186) rfl)) rfl, Or.inr (tb (tm3 _ (List.mem_of_getElem? (i := 187) rfl)) rfl)⟩, by decide +kernel, by decide +kernel, by decide +kernel, by decide +kernel⟩
theorem mf_63 : MF 63 := ⟨tb (tm2 _ (List.mem_of_getElem? (i := 197) rfl)) rfl, tb (tm1 _ (List.mem_of_getElem? (i := 8) rfl)) rfl, mfV rfl, fun _ => ⟨tb (tm2 _ (List.mem_of_getElem? (i := 195) rfl)) rfl, Or.inr (tb (tm2 _ (List.mem_of_getElem? (i := 196) rfl)) rfl)⟩, by decide +kernel, by decide +kernel, by decide +kernel, by decide +kernel⟩
theorem mf_64 : MF 64 := ⟨tb (tm2 _ (List.mem_of_getElem? (i := 189) rfl)) rfl, tb (tm1 _ (List.mem_of_getElem? (i := 8) rfl)) rfl, mfV rfl, fun _ => ⟨tb (tm2 _ (List.mem_of_getElem? (i := 187) rfl)) rfl, Or.inr (tb (tm2 _ (List.mem_of_getElem? (i := 188) rfl)) rfl)⟩, by decide +kernel, by decide +kernel, by decide +kernel, by decide +kernel⟩
theorem mf_65 : MF 65 := ⟨tb (tm2 _ (List.mem_of_getElem? (i := 217) rfl)) rfl, tb (tm1 _ (List.mem_of_getElem? (i := 8) rfl)) rfl, mfV rfl, fun _ => ⟨tb (tm2 _ (List.mem_of_getElem? (i := 215) rfl)) rfl, Or.inr (tb (tm2 _ (List.mem_of_getElem? (i := 216) rfl)) rfl)⟩, by decide +kernel, by decide +kernel, by decide +kernel, by decide +kernel⟩
theorem mf_66 : MF 66 := ⟨tb (tm4 _ (List.mem_of_getElem? (i := 26) rfl)) rfl, tb (tm1 _ (List.mem_of_getElem? (i := 8) rfl)) rfl, mfV rfl, fun _ => ⟨tb (tm4 _ (List.mem_of_getElem? (i := 24) rfl)) rfl, Or.inr (tb (tm4 _ (List.mem_of_getElem? (i := 25) rfl)) rfl)⟩, by decide +kernel, by decide +kernel, by decide +kernel, by decide +kernel⟩
theorem mf_67 : MF 67 := ⟨tb (tm3 _ (List.mem_of_getElem? (i := 137) rfl)) rfl, tb (tm1 _ (List.mem_of_getElem? (i := 8) rfl)) rfl, mfV rfl, fun _ => ⟨tb (tm3 _ (List.mem_of_getElem? (i := 136) rfl)) rfl, Or.inr (tb (tm0 _ (List.mem_of_getElem? (i := 10) rfl)) rfl)⟩, by decide +kernel, by decide +kernel, by decide +kernel, by decide +kernel⟩
theorem mf_68 : MF 68 := ⟨tb (tm3 _ (List.mem_of_getElem? (i := 154) rfl)) rfl, tb (tm1 _ (List.mem_of_getElem? (i := 8) rfl)) rfl, mfV rfl, fun _ => ⟨tb (tm3 _ (List.mem_of_getElem? (i := 153) rfl)) rfl, Or.inr (tb (tm0 _ (List.mem_of_getElem? (i := 13) rfl)) rfl)⟩, by decide +kernel, by decide +kernel, by decide +kernel, by decide +kernel⟩
theorem mf_69 : MF 69 := ⟨tb (tm3 _ (List.mem_of_getElem? (i := 141) rfl)) rfl, tb (tm1 _ (List.mem_of_getElem? (i := 8) rfl)) rfl, mfV rfl, fun _ => ⟨tb (tm3 _ (List.mem_of_getElem? (i := 140) rfl)) rfl, Or.inr (tb (tm0 _ (List.mem_of_getElem? (i := 11) rfl)) rfl)⟩, by decide +kernel, by decide +kernel, by decide +kernel, by decide +kernel⟩
theorem mf_70 : MF 70 := ⟨tb (tm3 _ (List.mem_of_getElem? (i := 145) rfl)) rfl, tb (tm1 _ (List.mem_of_getElem? (i := 8) rfl)) rfl, mfV rfl, fun _ => ⟨tb (tm3 _ (List.mem_of_getElem? (i := 144) rfl)) rfl, Or.inr (tb (tm0 _ (List.mem_of_getElem? (i := 12) rfl)) rfl)⟩, by decide +kernel, by decide +kernel, by decide +kernel, by decide +kernel⟩
theorem mf_71 : MF 71 := ⟨tb (tm3 _ (List.mem_of_getElem? (i := 158) rfl)) rfl, tb (tm1 _ (List.mem_of_getElem? (i := 8) rfl)) rfl, mfV rfl, fun _ => ⟨tb (tm3 _ (List.mem_of_getElem? (i := 157) rfl)) rfl, Or.inr (tb (tm0 _ (List.mem_of_getElem? (i := 14) rfl)) rfl)⟩, by decide +kernel, by decide +kernel, by decide +kernel, by decide +kernel⟩
theorem mf_72 : MF 72 := ⟨tb (tm3 _ (List.mem_of_getElem? (i := 165) rfl)) rfl, tb (tm1 _ (List.mem_of_getElem? (i := 8) rfl)) rfl, mfV rfl, fun _ => ⟨tb (tm3 _ (List.mem_of_getElem? (i := 164) rfl)) rfl, Or.inr (tb (tm0 _ (List.mem_of_getElem? (i := 15) rfl)) rfl)⟩, by decide +kernel, by decide +kernel, by decide +kernel, by decide +kernel⟩
theorem mf_73 : MF 73 := ⟨tb (tm1 _ (List.mem_of_getElem? (i := 154) rfl)) rfl, tb (tm1 _ (List.mem_of_getElem? (i := 9) rfl)) rfl, mfV rfl, fun _ => ⟨tb (tm1 _ (List.mem_of_getElem? (i := 153) rfl)) rfl, Or.inl rfl⟩, by decide +kernel, by decide +kernel, by decide +kernel, by decide +kernel⟩
theorem mf_74 : MF 74 := ⟨tb (tm3 _ (List.mem_of_getElem? (i := 207) rfl)) rfl, tb (tm1 _ (List.mem_of_getElem? (i := 9) rfl)) rfl, mfV rfl, fun _ => ⟨tb (tm3 _ (List.mem_of_getElem? (i := 205) rfl)) rfl, Or.inr (tb (tm3 _ (List.mem_of_getElem? (i := 206) rfl)) rfl)⟩, by decide +kernel, by decide +kernel, by decide +kernel, by decide +kernel⟩
theorem mf_75 : MF 75 := ⟨tb (tm3 _ (List.mem_of_getElem? (i := 212) rfl)) rfl, tb (tm1 _ (List.mem_of_getElem? (i := 9) rfl)) rfl, mfV rfl, fun _ => ⟨tb (tm3 _ (List.mem_of_getElem? (i := 210) rfl)) rfl, Or.inr (tb (tm3 _ (List.mem_of_getElem? (i := 211) rfl)) rfl)⟩, by decide +kernel, by decide +kernel, by decide +kernel, by decide +kernel⟩
theorem mf_76 : MF 76 := ⟨tb (tm3 _ (List.mem_of_getElem? (i := 223) rfl)) rfl, tb (tm1 _ (List.mem_of_getElem? (i := 9) rfl)) rfl, mfV rfl, fun _ => ⟨tb (tm3 _ (List.mem_of_getElem? (i := 221) rfl)) rfl, Or.inr (tb (tm3 _ (List.mem_of_getElem? (i := 222) rfl)) rfl)⟩, by decide +kernel, by decide +kernel, by decide +kernel, by decide +kernel⟩
theorem mf_77 : MF 77 := ⟨tb (tm2 _ (List.mem_of_getElem? (i := 209) rfl)) rfl, tb (tm1 _ (List.mem_of_getElem? (i := 9) rfl)) rfl, mfV rfl, fun _ => ⟨tb (tm2 _ (List.mem_of_getElem? (i := 207) rfl)) rfl, Or.inr (tb (tm2 _ (List.mem_of_getElem? (i := 208) rfl)) rfl)⟩, by decide +kernel, by decide +kernel, by decide +kernel, by decide +kernel⟩
theorem mf_78 : MF 78 := ⟨tb (tm4 _ (List.mem_of_getElem? (i := 40) rfl)) rfl, tb (tm1 _ (List.mem_of_getElem? (i := 9) rfl)) rfl, mfV rfl, fun _ => ⟨tb (tm4 _ (List.mem_of_getElem? (i := 38) rfl)) rfl, Or.inr (tb (tm4 _ (List.mem_of_getElem? (i := 39) rfl)) rfl)⟩, by decide +kernel, by decide +kernel, by decide +kernel, by decide +kernel⟩
theorem mf_79 : MF 79 := ⟨tb (tm1 _ (List.mem_of_getElem? (i := 23) rfl)) rfl, tb (tm1 _ (List.mem_of_getElem? (i := 1) rfl)) rfl, mfV rfl, fun _ => ⟨tb (tm1 _ (List.mem_of_getElem? (i := 22) rfl)) rfl, Or.inl rfl⟩, by decide +kernel, by decide +kernel, by decide +kernel, by decide +kernel⟩
theorem mf_80 : MF 80 := ⟨tb (tm2 _ (List.mem_of_getElem? (i := 0) rfl)) rfl, tb (tm1 _ (List.mem_of_getElem? (i := 1) rfl)) rfl, mfV rfl, fun _ => ⟨tb (tm1 _ (List.mem_of_getElem? (i := 238) rfl)) rfl, Or.inr (tb (tm1 _ (List.mem_of_getElem? (i := 239) rfl)) rfl)⟩, by decide +kernel, by decide +kernel, by decide +kernel, by decide +kernel⟩
theorem mf_81 : MF 81 := ⟨tb (tm2 _ (List.mem_of_getElem? (i := 123) rfl)) rfl, tb (tm1 _ (List.mem_of_getElem? (i := 1) rfl)) rfl, mfV rfl, fun _ => ⟨tb (tm2 _ (List.mem_of_getElem? (i := 121) rfl)) rfl, Or.inr (tb (tm2 _ (List.mem_of_getElem? (i := 122) rfl)) rfl)⟩, by decide +kernel, by decide +kernel, by decide +kernel, by decide +kernel⟩
theorem mf_82 : MF 82 := ⟨tb (tm3 _ (List.mem_of_getElem? (i := 25) rfl)) rfl, tb (tm1 _ (List.mem_of_getElem? (i := 1) rfl)) rfl, mfV rfl, fun _ => ⟨tb (tm3 _ (List.mem_of_getElem? (i := 23) rfl)) rfl, Or.inr (tb (tm3 _ (List.mem_of_getElem? (i := 24) rfl)) rfl)⟩, by decide +kernel, by decide +kernel, by decide +kernel, by decide +kernel⟩
theorem mf_83 : MF 83 := ⟨tb (tm3 _ (List.mem_of_getElem? (i := 36) rfl)) rfl, tb (tm1 _ (List.mem_of_getElem? (i := 1) rfl)) rfl, mfV rfl, fun _ => ⟨tb (tm3 _ (List.mem_of_getElem? (i := 34) rfl)) rfl, Or.inr (tb (tm3 _ (List.mem_of_getElem? (i := 35) rfl)) rfl)⟩, by decide +kernel, by decide +kernel, by decide +kernel, by decide +kernel⟩
theorem mf_84 : MF 84 := ⟨tb (tm3 _ (List.mem_of_getElem? (i := 76) rfl)) rfl, tb (tm1 _ (List.mem_of_getElem? (i := 1) rfl)) rfl, mfV rfl, fun _ => ⟨tb (tm3 _ (List.mem_of_getElem? (i := 74) rfl)) rfl, Or.inr (tb (tm3 _ (List.mem_of_getElem? (i := 75) rfl)) rfl)⟩, by decide +kernel, by decide +kernel, by decide +kernel, by decide +kernel⟩
theorem mf_85 : MF 85 := ⟨tb (tm3 _ (List.mem_of_getElem? (i := 101) rfl)) rfl, tb (tm1 _ (List.mem_of_getElem? (i := 1) rfl)) rfl, mfV rfl, fun _ => ⟨tb (tm3 _ (List.mem_of_getElem? (i := 99) rfl)) rfl, Or.inr (tb (tm3 _ (List.mem_of_getElem? (i := 100) rfl)) rfl)⟩, by decide +kernel, by decide +kernel, by decide +kernel, by decide +kernel⟩
theorem mf_86 : MF 86 := ⟨tb (tm3 _ (List.mem_of_getElem? (i := 116) rfl)) rfl, tb (tm1 _ (List.mem_of_getElem? (i := 1) rfl)) rfl, mfV rfl, fun _ => ⟨tb (tm3 _ (List.mem_of_getElem? (i := 114) rfl)) rfl, Or.inr (tb (tm3 _ (List.mem_of_getElem? (i := 115) rfl)) rfl)⟩, by decide +kernel, by decide +kernel, by decide +kernel, by decide +kernel⟩
theorem mf_87 : MF 87 := ⟨tb (tm3 _ (List.mem_of_getElem? (i := 172) rfl)) rfl, tb (tm1 _ (List.mem_of_getElem? (i := 1) rfl)) rfl, mfV rfl, fun _ => ⟨tb (tm3 _ (List.mem_of_getElem? (i := 170) rfl)) rfl, Or.inr (tb (tm3 _ (List.mem_of_getElem? (i := 171) rfl)) rfl)⟩, by decide +kernel, by decide +kernel, by decide +kernel, by decide +kernel⟩
theorem mf_88 : MF 88 := ⟨tb (tm3 _ (List.mem_of_getElem? (i := 183) rfl)) rfl, tb (tm1 _ (List.mem_of_getElem? (i := 1) rfl)) rfl, mfV rfl, fun _ => ⟨tb (tm3 _ (List.mem_of_getElem? (i := 181) rfl)) rfl, Or.inr (tb (tm3 _ (List.mem_of_getElem? (i := 182) rfl)) rfl)⟩, by decide +kernel, by decide +kernel, by decide +kernel, by decide +kernel⟩
theorem mf_89 : MF 89 := ⟨tb (tm3 _ (List.mem_of_getElem? (i := 195) rfl)) rfl, tb (tm1 _ (List.mem_of_getElem? (i := 1) rfl)) rfl, mfV rfl, fun _ => ⟨tb (tm3 _ (List.mem_of_getElem? (i := 193) rfl)) rfl, Or.inr (tb (tm3 _ (List.mem_of_getElem? (i := 194) rfl)) rfl)⟩, by decide +kernel, by decide +kernel, by decide +kernel, by decide +kernel⟩
theorem mf_90 : MF 90 := ⟨tb (tm3 _ (List.mem_of_getElem? (i := 203) rfl)) rfl, tb (tm1 _ (List.mem_of_getElem? (i := 1) rfl)) rfl, mfV rfl, fun _ => ⟨tb (tm3 _ (List.mem_of_getElem? (i := 201) rfl)) rfl, Or.inr (tb (tm3 _ (List.mem_of_getElem? (i := 202) rfl)) rfl)⟩, by decide +kernel, by decide +kernel, by decide +kernel, by decide +kernel⟩
theorem mf_91 : MF 91 := ⟨tb (tm3 _ (List.mem_of_getElem? (i := 219) rfl)) rfl, tb (tm1 _ (List.mem_of_getElem? (i := 1) rfl)) rfl, mfV rfl, fun _ => ⟨tb (tm3 _ (List.mem_of_getElem? (i := 217) rfl)) rfl, Or.inr (tb (tm3 _ (List.mem_of_getElem? (i := 218) rfl)) rfl)⟩, by decide +kernel, by decide +kernel, by decide +kernel, by decide +kernel⟩
theorem mf_92 : MF 92 := ⟨tb (tm3 _ (List.mem_of_getElem? (i := 230) rfl)) rfl, tb (tm1 _ (List.mem_of_getElem? (i := 1) rfl)) rfl, mfV rfl, fun _ => ⟨tb (tm3 _ (List.mem_of_getElem? (i := 228) rfl)) rfl, Or.inr (tb (tm3 _ (List.mem_of_getElem? (i := 229) rfl)) rfl)⟩, by decide +kernel, by decide +kernel, by decide +kernel, by decide +kernel⟩
theorem mf_93 : MF 93 := ⟨tb (tm4 _ (List.mem_of_getElem? (i := 2) rfl)) rfl, tb (tm1 _ (List.mem_of_getElem? (i := 1) rfl)) rfl, mfV rfl, fun _ => ⟨tb (tm4 _ (List.mem_of_getElem? (i := 0) rfl)) rfl, Or.inr (tb (tm4 _ (List.mem_of_getElem? (i := 1) rfl)) rfl)⟩, by decide +kernel, by decide +kernel, by decide +kernel, by decide +kernel⟩
theorem mf_94 : MF 94 := ⟨tb (tm4 _ (List.mem_of_getElem? (i := 22) rfl)) rfl, tb (tm1 _ (List.mem_of_getElem? (i := 1) rfl)) rfl, mfV rfl, fun _ => ⟨tb (tm4 _ (List.mem_of_getElem? (i := 20) rfl)) rfl, Or.inr (tb (tm4 _ (List.mem_of_getElem? (i := 21) rfl)) rfl)⟩, by decide +kernel, by decide +kernel, by decide +kernel, by decide +kernel⟩
theorem mf_95 : MF 95 := ⟨tb (tm4 _ (List.mem_of_getElem? (i := 47) rfl)) rfl, tb (tm1 _ (List.mem_of_getElem? (i := 1) rfl)) rfl, mfV rfl, fun _ => ⟨tb (tm4 _ (List.mem_of_getElem? (i := 45) rfl)) rfl, Or.inr (tb (tm4 _ (List.mem_of_getElem? (i := 46) rfl)) rfl)⟩, by decide +kernel, by decide +kernel, by decide +kernel, by decide +kernel⟩
theorem mf_96 : MF 96 := ⟨tb (tm4 _ (List.mem_of_getElem? (i := 55) rfl)) rfl, tb (tm1 _ (List.mem_of_getElem? (i := 1) rfl)) rfl, mfV rfl, fun _ => ⟨tb (tm4 _ (List.mem_of_getElem? (i := 53) rfl)) rfl, Or.inr (tb (tm4 _ (List.mem_of_getElem? (i := 54) rfl)) rfl)⟩, by decide +kernel, by decide +kernel, by decide +kernel, by decide +kernel⟩
theorem mf_97 : MF 97 := ⟨tb (tm4 _ (List.mem_of_getElem? (i := 76) rfl)) rfl, tb (tm1 _ (List.mem_of_getElem? (i := 1) rfl)) rfl, mfV rfl, fun _ => ⟨tb (tm4 _ (List.mem_of_getElem? (i := 74) rfl)) rfl, Or.inr (tb (tm4 _ (List.mem_of_getElem? (i := 75) rfl)) rfl)⟩, by decide +kernel, by decide +kernel, by decide +kernel, by decide +kernel⟩
theorem mf_98 : MF 98 := ⟨tb (tm4 _ (List.mem_of_getElem? (i := 89) rfl)) rfl, tb (tm1 _ (List.mem_of_getElem? (i := 1) rfl)) rfl, mfV rfl, fun _ => ⟨tb (tm4 _ (List.mem_of_getElem? (i := 87) rfl)) rfl, Or.inr (tb (tm4 _ (List.mem_of_getElem? (i := 88) rfl)) rfl)⟩, by decide +kernel, by decide +kernel, by decide +kernel, by decide +kernel⟩
theorem mf_99 : MF 99 := ⟨tb (tm3 _ (List.mem_of_getElem? (i := 39) rfl)) rfl, tb (tm1 _ (List.mem_of_getElem? (i := 1) rfl)) rfl, fun _ => tb (tm3 _ (List.mem_of_getElem? (i := 38) rfl)) rfl, mfS rfl, by decide +kernel, by decide +kernel, by decide +kernel, by decide +kernel⟩
theorem mf_100 : MF 100 := ⟨tb (tm2 _ (List.mem_of_getElem? (i := 127) rfl)) rfl, tb (tm1 _ (List.mem_of_getElem? (i := 1) rfl)) rfl, mfV rfl, fun _ => ⟨tb (tm2 _ (List.mem_of_getElem? (i := 126) rfl)) rfl, Or.inr (tb (tm0 _ (List.mem_of_getElem? (i := 1) rfl)) rfl)⟩, by decide +kernel, by decide +kernel, by decide +kernel, by decide +kernel⟩
theorem mf_101 : MF 101 := ⟨tb (tm2 _ (List.mem_of_getElem? (i := 3) rfl)) rfl, tb (tm1 _ (List.mem_of_getElem? (i := 1) rfl)) rfl, fun _ => tb (tm2 _ (List.mem_of_getElem? (i := 2) rfl)) rfl, mfS rfl, by decide +kernel, by decide +kernel, by decide +kernel, by decide +kernel⟩
theorem mf_102 : MF 102 := ⟨tb (tm2 _ (List.mem_of_getElem? (i := 148) rfl)) rfl, tb (tm1 _ (List.mem_of_getElem? (i := 1) rfl)) rfl, mfV rfl, fun _ => ⟨tb (tm2 _ (List.mem_of_getElem? (i := 147) rfl)) rfl, Or.inr (tb (tm0 _ (List.mem_of_getElem? (i := 2) rfl)) rfl)⟩, by decide +kernel, by decide +kernel, by decide +kernel, by decide +kernel⟩
theorem mf_103 : MF 103 := ⟨tb (tm3 _ (List.mem_of_getElem? (i := 44) rfl)) rfl, tb (tm1 _ (List.mem_of_getElem? (i := 1) rfl)) rfl, mfV rfl, fun _ => ⟨tb (tm3 _ (List.mem_of_getElem? (i := 43) rfl)) rfl, Or.inr (tb (tm0 _ (List.mem_of_getElem? (i := 7) rfl)) rfl)⟩, by decide +kernel, by decide +kernel, by decide +kernel, by decide +kernel⟩
theorem mf_104 : MF 104 := ⟨tb (tm3 _ (List.mem_of_getElem? (i := 121) rfl)) rfl, tb (tm1 _ (List.mem_of_getElem? (i := 1) rfl)) rfl, mfV rfl, fun _ => ⟨tb (tm3 _ (List.mem_of_getElem? (i := 120) rfl)) rfl, Or.inr (tb (tm0 _ (List.mem_of_getElem? (i := 9) rfl)) rfl)⟩, by decide +kernel, by decide +kernel, by decide +kernel, by decide +kernel⟩
theorem mf_105 : MF 105 := ⟨tb (tm4 _ (List.mem_of_getElem? (i := 107) rfl)) rfl, tb (tm1 _ (List.mem_of_getElem? (i := 11) rfl)) rfl, mfV rfl, fun _ => ⟨tb (tm4 _ (List.mem_of_getElem? (i := 106) rfl)) rfl, Or.inl rfl⟩, by decide +kernel, by decide +kernel, by decide +kernel, by decide +kernel⟩
theorem mf_106 : MF 106 := ⟨tb (tm4 _ (List.mem_of_getElem? (i := 112) rfl)) rfl, tb (tm1 _ (List.mem_of_getElem? (i := 11) rfl)) rfl, mfV rfl, fun _ => ⟨tb (tm4 _ (List.mem_of_getElem? (i := 111) rfl)) rfl, Or.inr (tb (tm0 _ (List.mem_of_getElem? (i := 18) rfl)) rfl)⟩, by decide +kernel, by decide +kernel, by decide +kernel, by decide +kernel⟩
theorem mf_107 : MF 107 := ⟨tb (tm4 _ (List.mem_of_getElem? (i := 189) rfl)) rfl, tb (tm1 _ (List.mem_of_getElem? (i := 11) rfl)) rfl, mfV rfl, fun _ => ⟨tb (tm4 _ (List.mem_of_getElem? (i := 187) rfl)) rfl, Or.inr (tb (tm4 _ (List.mem_of_getElem? (i := 188) rfl)) rfl)⟩, by decide +kernel, by decide +kernel, by decide +kernel, by decide +kernel⟩
theorem mf_108 : MF 108 := ⟨tb (tm4 _ (List.mem_of_getElem? (i := 204) rfl)) rfl, tb (tm1 _ (List.mem_of_getElem? (i := 11) rfl)) rfl, mfV rfl, fun _ => ⟨tb (tm4 _ (List.mem_of_getElem? (i := 203) rfl)) rfl, Or.inr (tb (tm0 _ (List.mem_of_getElem? (i := 20) rfl)) rfl)⟩, by decide +kernel, by decide +kernel, by decide +kernel, by decide +kernel⟩
theorem mf_109 : MF 109 := ⟨tb (tm4 _ (List.mem_of_getElem? (i := 196) rfl)) rfl, tb (tm1 _ (List.mem_of_getElem? (i := 11) rfl)) rfl, fun _ => tb (tm4 _ (List.mem_of_getElem? (i := 195) rfl)) rfl, mfS rfl, by decide +kernel, by decide +kernel, by decide +kernel, by decide +kernel⟩
theorem mf_110 : MF 110 := ⟨tb (tm5 _ (List.mem_of_getElem? (i := 51) rfl)) rfl, tb (tm1 _ (List.mem_of_getElem? (i := 11) rfl)) rfl, fun _ => tb (tm5 _ (List.mem_of_getElem? (i := 50) rfl)) rfl, mfS rfl, by decide +kernel, by decide +kernel, by decide +kernel, by decide +kernel⟩
theorem mf_111 : MF 111 := ⟨tb (tm4 _ (List.mem_of_getElem? (i := 212) rfl)) rfl, tb (tm1 _ (List.mem_of_getElem? (i := 11) rfl)) rfl, mfV rfl, fun _ => ⟨tb (tm4 _ (List.mem_of_getElem? (i := 211) rfl)) rfl, Or.inr (tb (tm0 _ (List.mem_of_getElem? (i := 21) rfl)) rfl)⟩, by decide +kernel, by decide +kernel, by decide +kernel, by decide +kernel⟩
theorem mf_112 : MF 112 := ⟨tb (tm4 _ (List.mem_of_getElem? (i := 200) rfl)) rfl, tb (tm1 _ (List.mem_of_getElem? (i := 11) rfl)) rfl, mfV rfl, fun _ => ⟨tb (tm4 _ (List.mem_of_getElem? (i := 199) rfl)) rfl, Or.inr (tb (tm0 _ (List.mem_of_getElem? (i := 19) rfl)) rfl)⟩, by decide +kernel, by decide +kernel, by decide +kernel, by decide +kernel⟩
theorem mf_113 : MF 113 := ⟨tb (tm4 _ (List.mem_of_getElem? (i := 193) rfl)) rfl, tb (tm1 _ (List.mem_of_getElem? (i := 11) rfl)) rfl, mfV rfl, fun _ => ⟨tb (tm4 _ (List.mem_of_getElem? (i := 191) rfl)) rfl, Or.inr (tb (tm4 _ (List.mem_of_getElem? (i := 192) rfl)) rfl)⟩, by decide +kernel, by decide +kernel, by decide +kernel, by decide +kernel⟩
theorem mf_114 : MF 114 := ⟨tb (tm4 _ (List.mem_of_getElem? (i := 216) rfl)) rfl, tb (tm1 _ (List.mem_of_getElem? (i := 11) rfl)) rfl, mfV rfl, fun _ => ⟨tb (tm4 _ (List.mem_of_getElem? (i := 215) rfl)) rfl, Or.inr (tb (tm0 _ (List.mem_of_getElem? (i := 22) rfl)) rfl)⟩, by decide +kernel, by decide +kernel, by decide +kernel, by decide +kernel⟩
theorem mf_115 : MF 115 := ⟨tb (tm5 _ (List.mem_of_getElem? (i := 36) rfl)) rfl, tb (tm1 _ (List.mem_of_getElem? (i := 11) rfl)) rfl, mfV rfl, fun _ => ⟨tb (tm5 _ (List.mem_of_getElem? (i := 35) rfl)) rfl, Or.inr (tb (tm0 _ (List.mem_of_getElem? (i := 36) rfl)) rfl)⟩, by decide +kernel, by decide +kernel, by decide +kernel, by decide +kernel⟩
theorem mf_116 : MF 116 := ⟨tb (tm4 _ (List.mem_of_getElem? (i := 208) rfl)) rfl, tb (tm1 _ (List.mem_of_getElem? (i := 11) rfl)) rfl, mfV rfl, fun _ => ⟨tb (tm4 _ (List.mem_of_getElem? (i := 206) rfl)) rfl, Or.inr (tb (tm4 _ (List.mem_of_getElem? (i := 207) rfl)) rfl)⟩, by decide +kernel, by decide +kernel, by decide +kernel, by decide +kernel⟩
theorem mf_117 : MF 117 := ⟨tb (tm5 _ (List.mem_of_getElem? (i := 44) rfl)) rfl, tb (tm1 _ (List.mem_of_getElem? (i := 11) rfl)) rfl, mfV rfl, fun _ => ⟨tb (tm5 _ (List.mem_of_getElem? (i := 42) rfl)) rfl, Or.inr (tb (tm5 _ (List.mem_of_getElem? (i := 43) rfl)) rfl)⟩, by decide +kernel, by decide +kernel, by decide +kernel, by decide +kernel⟩
theorem mf_118 : MF 118 := ⟨tb (tm5 _ (List.mem_of_getElem? (i := 59) rfl)) rfl, tb (tm1 _ (List.mem_of_getElem? (i := 11) rfl)) rfl, mfV rfl, fun _ => ⟨tb (tm5 _ (List.mem_of_getElem? (i := 58) rfl)) rfl, Or.inr (tb (tm0 _ (List.mem_of_getElem? (i := 39) rfl)) rfl)⟩, by decide +kernel, by decide +kernel, by decide +kernel, by decide +kernel⟩
theorem mf_119 : MF 119 := ⟨tb (tm4 _ (List.mem_of_getElem? (i := 236) rfl)) rfl, tb (tm1 _ (List.mem_of_getElem? (i := 11) rfl)) rfl, mfV rfl, fun _ => ⟨tb (tm4 _ (List.mem_of_getElem? (i := 235) rfl)) rfl, Or.inr (tb (tm0 _ (List.mem_of_getElem? (i := 27) rfl)) rfl)⟩, by decide +kernel, by decide +kernel, by decide +kernel, by decide +kernel⟩
theorem mf_120 : MF 120 := ⟨tb (tm5 _ (List.mem_of_getElem? (i := 0) rfl)) rfl, tb (tm1 _ (List.mem_of_getElem? (i := 11) rfl)) rfl, mfV rfl, fun _ => ⟨tb (tm4 _ (List.mem_of_getElem? (i := 239) rfl)) rfl, Or.inr (tb (tm0 _ (List.mem_of_getElem? (i := 28) rfl)) rfl)⟩, by decide +kernel, by decide +kernel, by decide +kernel, by decide +kernel⟩
theorem mf_121 : MF 121 := ⟨tb (tm5 _ (List.mem_of_getElem? (i := 55) rfl)) rfl, tb (tm1 _ (List.mem_of_getElem? (i := 11) rfl)) rfl, mfV rfl, fun _ => ⟨tb (tm5 _ (List.mem_of_getElem? (i := 54) rfl)) rfl, Or.inr (tb (tm0 _ (List.mem_of_getElem? (i := 38) rfl)) rfl)⟩, by decide +kernel, by decide +kernel, by decide +kernel, by decide +kernel⟩
theorem mf_122 : MF 122 := ⟨tb (tm5 _ (List.mem_of_getElem? (i := 48) rfl)) rfl, tb (tm1 _ (List.mem_of_getElem? (i := 11) rfl)) rfl, mfV rfl, fun _ => ⟨tb (tm5 _ (List.mem_of_getElem? (i := 46) rfl)) rfl, Or.inr (tb (tm5 _ (List.mem_of_getElem? (i := 47) rfl)) rfl)⟩, by decide +kernel, by decide +kernel, by decide +kernel, by decide +kernel⟩
theorem mf_123 : MF 123 := ⟨tb (tm5 _ (List.mem_of_getElem? (i := 63) rfl)) rfl, tb (tm1 _ (List.mem_of_getElem? (i := 11) rfl)) rfl, mfV rfl, fun _ => ⟨tb (tm5 _ (List.mem_of_getElem? (i := 61) rfl)) rfl, Or.inr (tb (tm5 _ (List.mem_of_getElem? (i := 62) rfl)) rfl)⟩, by decide +kernel, by decide +kernel, by decide +kernel, by decide +kernel⟩
theorem mf_124 : MF 124 := ⟨tb (tm5 _ (List.mem_of_getElem? (i := 67) rfl)) rfl, tb (tm1 _ (List.mem_of_getElem? (i := 11) rfl)) rfl, mfV rfl, fun _ => ⟨tb (tm5 _ (List.mem_of_getElem? (i := 65) rfl)) rfl, Or.inr (tb (tm5 _ (List.mem_of_getElem? (i := 66) rfl)) rfl)⟩, by decide +kernel, by decide +kernel, by decide +kernel, by decide +kernel⟩
theorem mf_125 : MF 125 := ⟨tb (tm5 _ (List.mem_of_getElem? (i := 19) rfl)) rfl, tb (tm1 _ (List.mem_of_getElem? (i := 11) rfl)) rfl, mfV rfl, fun _ => ⟨tb (tm5 _ (List.mem_of_getElem? (i := 18) rfl)) rfl, Or.inr (tb (tm0 _ (List.mem_of_getElem? (i := 32) rfl)) rfl)⟩, by decide +kernel, by decide +kernel, by decide +kernel, by decide +kernel⟩
theorem mf_126 : MF 126 := ⟨tb (tm5 _ (List.mem_of_getElem? (i := 15) rfl)) rfl, tb (tm1 _ (List.mem_of_getElem? (i := 11) rfl)) rfl, fun _ => tb (tm5 _ (List.mem_of_getElem? (i := 14) rfl)) rfl, mfS rfl, by decide +kernel, by decide +kernel, by decide +kernel, by decide +kernel⟩
theorem mf_127 : MF 127 := ⟨tb (tm5 _ (List.mem_of_getElem? (i := 12) rfl)) rfl, tb (tm1 _ (List.mem_of_getElem? (i := 11) rfl)) rfl, mfV rfl, fun _ => ⟨tb (tm5 _ (List.mem_of_getElem? (i := 11) rfl)) rfl, Or.inr (tb (tm0 _ (List.mem_of_getElem? (i := 31) rfl)) rfl)⟩, by decide +kernel, by decide +kernel, by decide +kernel, by decide +kernel⟩
theorem mf_128 : MF 128 := ⟨tb (tm5 _ (List.mem_of_getElem? (i := 8) rfl)) rfl, tb (tm1 _ (List.mem_of_getElem? (i := 11) rfl)) rfl, mfV rfl, fun _ => ⟨tb (tm5 _ (List.mem_of_getElem? (i := 7) rfl)) rfl, Or.inr (tb (tm0 _ (List.mem_of_getElem? (i := 30) rfl)) rfl)⟩, by decide +kernel, by decide +kernel, by decide +kernel, by decide +kernel⟩
theorem mf_129 : MF 129 := ⟨tb (tm5 _ (List.mem_of_getElem? (i := 4) rfl)) rfl, tb (tm1 _ (List.mem_of_getElem? (i := 11) rfl)) rfl, mfV rfl, fun _ => ⟨tb (tm5 _ (List.mem_of_getElem? (i := 3) rfl)) rfl, Or.inr (tb (tm0 _ (List.mem_of_getElem? (i := 29) rfl)) rfl)⟩, by decide +kernel, by decide +kernel, by decide +kernel, by decide +kernel⟩
theorem mf_130 : MF 130 := ⟨tb (tm4 _ (List.mem_of_getElem? (i := 232) rfl)) rfl, tb (tm1 _ (List.mem_of_getElem? (i := 11) rfl)) rfl, mfV rfl, fun _ => ⟨tb (tm4 _ (List.mem_of_getElem? (i := 231) rfl)) rfl, Or.inr (tb (tm0 _ (List.mem_of_getElem? (i := 26) rfl)) rfl)⟩, by decide +kernel, by decide +kernel, by decide +kernel, by decide +kernel⟩
theorem mf_131 : MF 131 := ⟨tb (tm4 _ (List.mem_of_getElem? (i := 228) rfl)) rfl, tb (tm1 _ (List.mem_of_getElem? (i := 11) rfl)) rfl, mfV rfl, fun _ => ⟨tb (tm4 _ (List.mem_of_getElem? (i := 227) rfl)) rfl, Or.inr (tb (tm0 _ (List.mem_of_getElem? (i := 25) rfl)) rfl)⟩, by decide +kernel, by decide +kernel, by decide +kernel, by decide +kernel⟩
theorem mf_132 : MF 132 := ⟨tb (tm5 _ (List.mem_of_getElem? (i := 76) rfl)) rfl, tb (tm1 _ (List.mem_of_getElem? (i := 11) rfl)) rfl, mfV rfl, fun _ => ⟨tb (tm5 _ (List.mem_of_getElem? (i := 75) rfl)) rfl, Or.inr (tb (tm0 _ (List.mem_of_getElem? (i := 40) rfl)) rfl)⟩, by decide +kernel, by decide +kernel, by decide +kernel, by decide +kernel⟩
theorem mf_133 : MF 133 := ⟨tb (tm5 _ (List.mem_of_getElem? (i := 71) rfl)) rfl, tb (tm1 _ (List.mem_of_getElem? (i := 11) rfl)) rfl, mfV rfl, fun _ => ⟨tb (tm5 _ (List.mem_of_getElem? (i := 69) rfl)) rfl, Or.inr (tb (tm5 _ (List.mem_of_getElem? (i := 70) rfl)) rfl)⟩, by decide +kernel, by decide +kernel, by decide +kernel, by decide +kernel⟩
theorem mf_134 : MF 134 := ⟨tb (tm5 _ (List.mem_of_getElem? (i := 80) rfl)) rfl, tb (tm1 _ (List.mem_of_getElem? (i := 11) rfl)) rfl, mfV rfl, fun _ => ⟨tb (tm5 _ (List.mem_of_getElem? (i := 78) rfl)) rfl, Or.inr (tb (tm5 _ (List.mem_of_getElem? (i := 79) rfl)) rfl)⟩, by decide +kernel, by decide +kernel, by decide +kernel, by decide +kernel⟩
theorem mf_135 : MF 135 := ⟨tb (tm5 _ (List.mem_of_getElem? (i := 84) rfl)) rfl, tb (tm1 _ (List.mem_of_getElem? (i := 11) rfl)) rfl, mfV rfl, fun _ => ⟨tb (tm5 _ (List.mem_of_getElem? (i := 82) rfl)) rfl, Or.inr (tb (tm5 _ (List.mem_of_getElem? (i := 83) rfl)) rfl)⟩, by decide +kernel, by decide +kernel, by decide +kernel, by decide +kernel⟩
theorem mf_136 : MF 136 := ⟨tb (tm5 _ (List.mem_of_getElem? (i := 89) rfl)) rfl, tb (tm1 _ (List.mem_of_getElem? (i := 11) rfl)) rfl, mfV rfl, fun _ => ⟨tb (tm5 _ (List.mem_of_getElem? (i := 87) rfl)) rfl, Or.inr (tb (tm5 _ (List.mem_of_getElem? (i := 88) rfl)) rfl)⟩, by decide +kernel, by decide +kernel, by decide +kernel, by decide +kernel⟩
theorem mf_137 : MF 137 := ⟨tb (tm5 _ (List.mem_of_getElem? (i := 93) rfl)) rfl, tb (tm1 _ (List.mem_of_getElem? (i := 11) rfl)) rfl, mfV rfl, fun _ => ⟨tb (tm5 _ (List.mem_of_getElem? (i := 91) rfl)) rfl, Or.inr (tb (tm5 _ (List.mem_of_getElem? (i := 92) rfl)) rfl)⟩, by decide +kernel, by decide +kernel, by decide +kernel, by decide +kernel⟩
theorem mf_138 : MF 138 := ⟨tb (tm5 _ (List.mem_of_getElem? (i := 97) rfl)) rfl, tb (tm1 _ (List.mem_of_getElem? (i := 11) rfl)) rfl, mfV rfl, fun _ => ⟨tb (tm5 _ (List.mem_of_getElem? (i := 95) rfl)) rfl, Or.inr (tb (tm5 _ (List.mem_of_getElem? (i := 96) rfl)) rfl)⟩, by decide +kernel, by decide +kernel, by decide +kernel, by decide +kernel⟩
theorem mf_139 : MF 139 := ⟨tb (tm5 _ (List.mem_of_getElem? (i := 101) rfl)) rfl, tb (tm1 _ (List.mem_of_getElem? (i := 11) rfl)) rfl, mfV rfl, fun _ => ⟨tb (tm5 _ (List.mem_of_getElem? (i := 99) rfl)) rfl, Or.inr (tb (tm5 _ (List.mem_of_getElem? (i := 100) rfl)) rfl)⟩, by decide +kernel, by decide +kernel, by decide +kernel, by decide +kernel⟩
theorem mf_140 : MF 140 := ⟨tb (tm5 _ (List.mem_of_getElem? (i := 23) rfl)) rfl, tb (tm1 _ (List.mem_of_getElem? (i := 11) rfl)) rfl, mfV rfl, fun _ => ⟨tb (tm5 _ (List.mem_of_getElem? (i := 22) rfl)) rfl, Or.inr (tb (tm0 _ (List.mem_of_getElem? (i := 33) rfl)) rfl)⟩, by decide +kernel, by decide +kernel, by decide +kernel, by decide +kernel⟩
theorem mf_141 : MF 141 := ⟨tb (tm4 _ (List.mem_of_getElem? (i := 224) rfl)) rfl, tb (tm1 _ (List.mem_of_getElem? (i := 11) rfl)) rfl, mfV rfl, fun _ => ⟨tb (tm4 _ (List.mem_of_getElem? (i := 223) rfl)) rfl, Or.inr (tb (tm0 _ (List.mem_of_getElem? (i := 24) rfl)) rfl)⟩, by decide +kernel, by decide +kernel, by decide +kernel, by decide +kernel⟩
theorem mf_142 : MF 142 := ⟨tb (tm5 _ (List.mem_of_getElem? (i := 27) rfl)) rfl, tb (tm1 _ (List.mem_of_getElem? (i := 11) rfl)) rfl, mfV rfl, fun _ => ⟨tb (tm5 _ (List.mem_of_getElem? (i := 26) rfl)) rfl, Or.inr (tb (tm0 _ (List.mem_of_getElem? (i := 34) rfl)) rfl)⟩, by decide +kernel, by decide +kernel, by decide +kernel, by decide +kernel⟩
theorem mf_143 : MF 143 := ⟨tb (tm5 _ (List.mem_of_getElem? (i := 31) rfl)) rfl, tb (tm1 _ (List.mem_of_getElem? (i := 11) rfl)) rfl, mfV rfl, fun _ => ⟨tb (tm5 _ (List.mem_of_getElem? (i := 30) rfl)) rfl, Or.inr (tb (tm0 _ (List.mem_of_getElem? (i := 35) rfl)) rfl)⟩, by decide +kernel, by decide +kernel, by decide +kernel, by decide +kernel⟩
theorem mf_144 : MF 144 := ⟨tb (tm4 _ (List.mem_of_getElem? (i := 220) rfl)) rfl, tb (tm1 _ (List.mem_of_getElem? (i := 11) rfl)) rfl, mfV rfl, fun _ => ⟨tb (tm4 _ (List.mem_of_getElem? (i := 219) rfl)) rfl, Or.inr (tb (tm0 _ (List.mem_of_getElem? (i := 23) rfl)) rfl)⟩, by decide +kernel, by decide +kernel, by decide +kernel, by decide +kernel⟩
theorem mf_145 : MF 145 := ⟨tb (tm5 _ (List.mem_of_getElem? (i := 40) rfl)) rfl, tb (tm1 _ (List.mem_of_getElem? (i := 11) rfl)) rfl, mfV rfl, fun _ => ⟨tb (tm5 _ (List.mem_of_getElem? (i := 39) rfl)) rfl, Or.inr (tb (tm0 _ (List.mem_of_getElem? (i := 37) rfl)) rfl)⟩, by decide +kernel, by decide +kernel, by decide +kernel, by decide +kernel⟩
theorem mf_146 : MF 146 := ⟨tb (tm5 _ (List.mem_of_getElem? (i := 105) rfl)) rfl, tb (tm1 _ (List.mem_of_getElem? (i := 11) rfl)) rfl, mfV rfl, fun _ => ⟨tb (tm5 _ (List.mem_of_getElem? (i := 103) rfl)) rfl, Or.inr (tb (tm5 _ (List.mem_of_getElem? (i := 104) rfl)) rfl)⟩, by decide +kernel, by decide +kernel, by decide +kernel, by decide +kernel⟩
theorem mf_147 : MF 147 := ⟨tb (tm5 _ (List.mem_of_getElem? (i := 109) rfl)) rfl, tb (tm1 _ (List.mem_of_getElem? (i := 11) rfl)) rfl, mfV rfl, fun _ => ⟨tb (tm5 _ (List.mem_of_getElem? (i := 107) rfl)) rfl, Or.inr (tb (tm5 _ (List.mem_of_getElem? (i := 108) rfl)) rfl)⟩, by decide +kernel, by decide +kernel, by decide +kernel, by decide +kernel⟩
theorem mf_148 : MF 148 := ⟨tb (tm5 _ (List.mem_of_getElem? (i := 113) rfl)) rfl, tb (tm1 _ (List.mem_of_getElem? (i := 11) rfl)) rfl, mfV rfl, fun _ => ⟨tb (tm5 _ (List.mem_of_getElem? (i := 111) rfl)) rfl, Or.inr (tb (tm5 _ (List.mem_of_getElem? (i := 112) rfl)) rfl)⟩, by decide +kernel, by decide +kernel, by decide +kernel, by decide +kernel⟩
theorem mf_149 : MF 149 := ⟨tb (tm5 _ (List.mem_of_getElem? (i := 117) rfl)) rfl, tb (tm1 _ (List.mem_of_getElem? (i := 11) rfl)) rfl, mfV rfl, fun _ => ⟨tb (tm5 _ (List.mem_of_getElem? (i := 115) rfl)) rfl, Or.inr (tb (tm5 _ (List.mem_of_getElem? (i := 116) rfl)) rfl)⟩, by decide +kernel, by decide +kernel, by decide +kernel, by decide +kernel⟩
theorem mf_150 : MF 150 := ⟨tb (tm5 _ (List.mem_of_getElem? (i := 128) rfl)) rfl, tb (tm1 _ (List.mem_of_getElem? (i := 11) rfl)) rfl, fun _ => tb (tm5 _ (List.mem_of_getElem? (i := 127) rfl)) rfl, mfS rfl, by decide +kernel, by decide +kernel, by decide +kernel, by decide +kernel⟩
theorem mf_151 : MF 151 := ⟨tb (tm5 _ (List.mem_of_getElem? (i := 125) rfl)) rfl, tb (tm1 _ (List.mem_of_getElem? (i := 11) rfl)) rfl, mfV rfl, fun _ => ⟨tb (tm5 _ (List.mem_of_getElem? (i := 124) rfl)) rfl, Or.inr (tb (tm0 _ (List.mem_of_getElem? (i := 41) rfl)) rfl)⟩, by decide +kernel, by decide +kernel, by decide +kernel, by decide +kernel⟩
theorem mf_152 : MF 152 := ⟨tb (tm5 _ (List.mem_of_getElem? (i := 121) rfl)) rfl, tb (tm1 _ (List.mem_of_getElem? (i := 11) rfl)) rfl, mfV rfl, fun _ => ⟨tb (tm5 _ (List.mem_of_getElem? (i := 119) rfl)) rfl, Or.inr (tb (tm5 _ (List.mem_of_getElem? (i := 120) rfl)) rfl)⟩, by decide +kernel, by decide +kernel, by decide +kernel, by decide +kernel⟩
theorem mf_153 : MF 153 := ⟨tb (tm5 _ (List.mem_of_getElem? (i := 140) rfl)) rfl, tb (tm1 _ (List.mem_of_getElem? (i := 11) rfl)) rfl, mfV rfl, fun _ => ⟨tb (tm5 _ (List.mem_of_getElem? (i := 139) rfl)) rfl, Or.inr (tb (tm0 _ (List.mem_of_getElem? (i := 43) rfl)) rfl)⟩, by decide +kernel, by decide +kernel, by decide +kernel, by decide +kernel⟩
theorem mf_154 : MF 154 := ⟨tb (tm5 _ (List.mem_of_getElem? (i := 136) rfl)) rfl, tb (tm1 _ (List.mem_of_getElem? (i := 11) rfl)) rfl, mfV rfl, fun _ => ⟨tb (tm5 _ (List.mem_of_getElem? (i := 135) rfl)) rfl, Or.inr (tb (tm0 _ (List.mem_of_getElem? (i := 42) rfl)) rfl)⟩, by decide +kernel, by decide +kernel, by decide +kernel, by decide +kernel⟩
theorem mf_155 : MF 155 := ⟨tb (tm5 _ (List.mem_of_getElem? (i := 132) rfl)) rfl, tb (tm1 _ (List.mem_of_getElem? (i := 11) rfl)) rfl, mfV rfl, fun _ => ⟨tb (tm5 _ (List.mem_of_getElem? (i := 130) rfl)) rfl, Or.inr (tb (tm5 _ (List.mem_of_getElem? (i := 131) rfl)) rfl)⟩, by decide +kernel, by decide +kernel, by decide +kernel, by decide +kernel⟩
theorem mf_156 : MF 156 := ⟨tb (tm1 _ (List.mem_of_getElem? (i := 234) rfl)) rfl, tb (tm1 _ (List.mem_of_getElem? (i := 0) rfl)) rfl, fun _ => tb (tm1 _ (List.mem_of_getElem? (i := 233) rfl)) rfl, mfS rfl, by decide +kernel, by decide +kernel, by decide +kernel, by decide +kernel⟩
theorem mf_157 : MF 157 := ⟨tb (tm2 _ (List.mem_of_getElem? (i := 118) rfl)) rfl, tb (tm1 _ (List.mem_of_getElem? (i := 0) rfl)) rfl, fun _ => tb (tm2 _ (List.mem_of_getElem? (i := 117) rfl)) rfl, mfS rfl, by decide +kernel, by decide +kernel, by decide +kernel, by decide +kernel⟩
theorem mf_158 : MF 158 := ⟨tb (tm3 _ (List.mem_of_getElem? (i := 21) rfl)) rfl, tb (tm1 _ (List.mem_of_getElem? (i := 0) rfl)) rfl, fun _ => tb (tm3 _ (List.mem_of_getElem? (i := 20) rfl)) rfl, mfS rfl, by decide +kernel, by decide +kernel, by decide +kernel, by decide +kernel⟩
theorem mf_159 : MF 159 := ⟨tb (tm3 _ (List.mem_of_getElem? (i := 32) rfl)) rfl, tb (tm1 _ (List.mem_of_getElem? (i := 0) rfl)) rfl, fun _ => tb (tm3 _ (List.mem_of_getElem? (i := 31) rfl)) rfl, mfS rfl, by decide +kernel, by decide +kernel, by decide +kernel, by decide +kernel⟩
theorem mf_160 : MF 160 := ⟨tb (tm3 _ (List.mem_of_getElem? (i := 72) rfl)) rfl, tb (tm1 _ (List.mem_of_getElem? (i := 0) rfl)) rfl, fun _ => tb (tm3 _ (List.mem_of_getElem? (i := 71) rfl)) rfl, mfS rfl, by decide +kernel, by decide +kernel, by decide +kernel, by decide +kernel⟩
theorem mf_161 : MF 161 := ⟨tb (tm3 _ (List.mem_of_getElem? (i := 97) rfl)) rfl, tb (tm1 _ (List.mem_of_getElem? (i := 0) rfl)) rfl, fun _ => tb (tm3 _ (List.mem_of_getElem? (i := 96) rfl)) rfl, mfS rfl, by decide +kernel, by decide +kernel, by decide +kernel, by decide +kernel⟩
theorem mf_162 : MF 162 := ⟨tb (tm3 _ (List.mem_of_getElem? (i := 112) rfl)) rfl, tb (tm1 _ (List.mem_of_getElem? (i := 0) rfl)) rfl, fun _ => tb (tm3 _ (List.mem_of_getElem? (i := 111) rfl)) rfl, mfS rfl, by decide +kernel, by decide +kernel, by decide +kernel, by decide +kernel⟩
theorem mf_163 : MF 163 := ⟨tb (tm3 _ (List.mem_of_getElem? (i := 168) rfl)) rfl, tb (tm1 _ (List.mem_of_getElem? (i := 0) rfl)) rfl, fun _ => tb (tm3 _ (List.mem_of_getElem? (i := 167) rfl)) rfl, mfS rfl, by decide +kernel, by decide +kernel, by decide +kernel, by decide +kernel⟩
theorem mf_164 : MF 164 := ⟨tb (tm3 _ (List.mem_of_getElem? (i := 179) rfl)) rfl, tb (tm1 _ (List.mem_of_getElem? (i := 0) rfl)) rfl, fun _ => tb (tm3 _ (List.mem_of_getElem? (i := 178) rfl)) rfl, mfS rfl, by decide +kernel, by decide +kernel, by decide +kernel, by decide +kernel⟩
theorem mf_165 : MF 165 := ⟨tb (tm3 _ (List.mem_of_getElem? (i := 191) rfl)) rfl, tb (tm1 _ (List.mem_of_getElem? (i := 0) rfl)) rfl, fun _ => tb (tm3 _ (List.mem_of_getElem? (i := 190) rfl)) rfl, mfS rfl, by decide +kernel, by decide +kernel, by decide +kernel, by decide +kernel⟩
theorem mf_166 : MF 166 := ⟨tb (tm3 _ (List.mem_of_getElem? (i := 199) rfl)) rfl, tb (tm1 _ (List.mem_of_getElem? (i := 0) rfl)) rfl, fun _ => tb (tm3 _ (List.mem_of_getElem? (i := 198) rfl)) rfl, mfS rfl, by decide +kernel, by decide +kernel, by decide +kernel, by decide +kernel⟩
theorem mf_167 : MF 167 := ⟨tb (tm3 _ (List.mem_of_getElem? (i := 215) rfl)) rfl, tb (tm1 _ (List.mem_of_getElem? (i := 0) rfl)) rfl, fun _ => tb (tm3 _ (List.mem_of_getElem? (i := 214) rfl)) rfl, mfS rfl, by decide +kernel, by decide +kernel, by decide +kernel, by decide +kernel⟩
theorem mf_168 : MF 168 := ⟨tb (tm3 _ (List.mem_of_getElem? (i := 226) rfl)) rfl, tb (tm1 _ (List.mem_of_getElem? (i := 0) rfl)) rfl, fun _ => tb (tm3 _ (List.mem_of_getElem? (i := 225) rfl)) rfl, mfS rfl, by decide +kernel, by decide +kernel, by decide +kernel, by decide +kernel⟩
theorem mf_169 : MF 169 := ⟨tb (tm3 _ (List.mem_of_getElem? (i := 238) rfl)) rfl, tb (tm1 _ (List.mem_of_getElem? (i := 0) rfl)) rfl, fun _ => tb (tm3 _ (List.mem_of_getElem? (i := 237) rfl)) rfl, mfS rfl, by decide +kernel, by decide +kernel, by decide +kernel, by decide +kernel⟩
theorem mf_170 : MF 170 := ⟨tb (tm4 _ (List.mem_of_getElem? (i := 18) rfl)) rfl, tb (tm1 _ (List.mem_of_getElem? (i := 0) rfl)) rfl, fun _ => tb (tm4 _ (List.mem_of_getElem? (i := 17) rfl)) rfl, mfS rfl, by decide +kernel, by decide +kernel, by decide +kernel, by decide +kernel⟩
theorem mf_171 : MF 171 := ⟨tb (tm4 _ (List.mem_of_getElem? (i := 43) rfl)) rfl, tb (tm1 _ (List.mem_of_getElem? (i := 0) rfl)) rfl, fun _ => tb (tm4 _ (List.mem_of_getElem? (i := 42) rfl)) rfl, mfS rfl, by decide +kernel, by decide +kernel, by decide +kernel, by decide +kernel⟩
theorem mf_172 : MF 172 := ⟨tb (tm4 _ (List.mem_of_getElem? (i := 51) rfl)) rfl, tb (tm1 _ (List.mem_of_getElem? (i := 0) rfl)) rfl, fun _ => tb (tm4 _ (List.mem_of_getElem? (i := 50) rfl)) rfl, mfS rfl, by decide +kernel, by decide +kernel, by decide +kernel, by decide +kernel⟩
theorem mf_173 : MF 173 := ⟨tb (tm4 _ (List.mem_of_getElem? (i := 72) rfl)) rfl, tb (tm1 _ (List.mem_of_getElem? (i := 0) rfl)) rfl, fun _ => tb (tm4 _ (List.mem_of_getElem? (i := 71) rfl)) rfl, mfS rfl, by decide +kernel, by decide +kernel, by decide +kernel, by decide +kernel⟩
theorem mf_174 : MF 174 := ⟨tb (tm4 _ (List.mem_of_getElem? (i := 85) rfl)) rfl, tb (tm1 _ (List.mem_of_getElem? (i := 0) rfl)) rfl, fun _ => tb (tm4 _ (List.mem_of_getElem? (i := 84) rfl)) rfl, mfS rfl, by decide +kernel, by decide +kernel, by decide +kernel, by decide +kernel⟩
theorem mf_176 : MF 176 := ⟨tb (tm1 _ (List.mem_of_getElem? (i := 71) rfl)) rfl, tb (tm1 _ (List.mem_of_getElem? (i := 6) rfl)) rfl, fun _ => tb (tm1 _ (List.mem_of_getElem? (i := 70) rfl)) rfl, mfS rfl, by decide +kernel, by decide +kernel, by decide +kernel, by decide +kernel⟩
theorem mf_177 : MF 177 := ⟨tb (tm3 _ (List.mem_of_getElem? (i := 148) rfl)) rfl, tb (tm1 _ (List.mem_of_getElem? (i := 18) rfl)) rfl, fun _ => tb (tm3 _ (List.mem_of_getElem? (i := 147) rfl)) rfl, mfS rfl, by decide +kernel, by decide +kernel, by decide +kernel, by decide +kernel⟩
theorem mf_178 : MF 178 := ⟨tb (tm3 _ (List.mem_of_getElem? (i := 94) rfl)) rfl, tb (tm1 _ (List.mem_of_getElem? (i := 18) rfl)) rfl, fun _ => tb (tm3 _ (List.mem_of_getElem? (i := 93) rfl)) rfl, mfS rfl, by decide +kernel, by decide +kernel, by decide +kernel, by decide +kernel⟩
def fldT : List (Nat × Nat × Nat × Nat × Bool) := [(0, 9, 0, 2, false), (0, 15, 0, 3, false), (0, 18, 0, 4, false), (0, 21, 0, 5, false), (0, 24, 0, 6, false), (0, 28, 0, 7, false), (0, 31, 0, 0, false), (0, 35, 0, 1, false), (1, 9, 1, 0, false), (1, 15, 1, 1, false), (1, 18, 1, 2, false), (1, 21, 1, 3, false), (2, 9, 2, 0, false), (2, 15, 2, 1, false), (3, 9, 3, 0, false), (3, 15, 3, 1, false), (3, 19, 3, 2, false), (3, 23, 3, 3, false), (3, 27, 3, 4, false), (3, 31, 3, 5, false), (4, 9, 4, 3, false), (4, 15, 4, 4, false), (4, 19, 4, 5, false), (4, 22, 4, 0, false), (4, 26, 4, 1, false), (4, 30, 4, 2, false), (5, 9, 5, 0, false), (5, 15, 5, 1, false), (6, 9, 6, 3, false), (6, 15, 6, 4, false), (6, 18, 6, 5, false), (6, 21, 6, 6, false), (6, 25, 6, 7, false), (6, 28, 6, 8, false), (6, 31, 6, 9, false), (6, 34, 6, 0, false), (6, 38, 6, 1, false), (6, 42, 6, 2, false), (7, 9, 7, 0, false), (7, 15, 7, 1, false), (7, 18, 7, 2, false), (7, 22, 7, 3, false), (8, 10, 8, 0, false), (8, 22, 8, 1, false), (8, 34, 3, 0, true), (8, 71, 3, 1, true), (8, 86, 3, 2, true), (8, 130, 3, 3, true), (8, 151, 3, 4, true), (8, 171, 3, 5, true), (9, 7, 9, 2, false), (9, 13, 9, 3, false), (9, 16, 9, 4, false), (9, 19, 9, 5, false), (9, 22, 9, 6, false), (9, 25, 9, 7, false), (9, 28, 9, 8, false), (9, 31, 9, 9, false), (9, 34, 9, 10, false), (9, 38, 9, 11, false), (9, 41, 9, 12, false), (9, 44, 9, 13, false), (9, 47, 9, 14, false), (9, 50, 9, 15, false), (9, 53, 9, 16, false), (9, 56, 9, 17, false), (9, 59, 9, 18, false), (9, 62, 9, 19, false), (9, 65, 9, 21, false), (9, 68, 9, 22, false), (9, 71, 9, 23, false), (9, 77, 9, 1, false), (9, 81, 9, 0, false), (9, 171, 9, 20, false)]
def clC (ci : Nat) : vw_C := vwCl.getD ci ("", TX0, 0)
def fldW (e : Nat × Nat × Nat × Nat × Bool) : Cond := if e.2.2.2.2 = true then .fieldLinkNest (rn e.1) e.2.1 ((clC e.2.2.1).2.1 e.2.2.2.1).1 ((clC e.2.2.1).2.1 e.2.2.2.1).2.1 ((clC e.2.2.1).2.1 e.2.2.2.1).2.2.1 "RallyCard" else .fieldLink (rn e.1) e.2.1 ((clC e.2.2.1).2.1 e.2.2.2.1).1 ((clC e.2.2.1).2.1 e.2.2.2.1).2.1 ((clC e.2.2.1).2.1 e.2.2.2.1).2.2.1
set_option maxRecDepth 100000 in
theorem fldT_ok : ∀ e ∈ fldT, fldW e ∈ TBL ∧ vwCl[e.2.2.1]? = some (clC e.2.2.1) ∧ e.2.2.2.1 < (clC e.2.2.1).2.2 := List.forall_mem_cons.mpr ⟨⟨tb (tm1 _ (List.mem_of_getElem? (i := 88) rfl)) rfl, rfl, by decide⟩, List.forall_mem_cons.mpr ⟨⟨tb (tm1 _ (List.mem_of_getElem? (i := 89) rfl)) rfl, rfl, by decide⟩, List.forall_mem_cons.mpr ⟨⟨tb (tm1 _ (List.mem_of_getElem? (i := 90) rfl)) rfl, rfl, by decide⟩, List.forall_mem_cons.mpr ⟨⟨tb (tm1 _ (List.mem_of_getElem? (i := 91) rfl)) rfl, rfl, by decide⟩, List.forall_mem_cons.mpr ⟨⟨tb (tm1 _ (List.mem_of_getElem? (i := 92) rfl)) rfl, rfl, by decide⟩, List.forall_mem_cons.mpr ⟨⟨tb (tm1 _ (List.mem_of_getElem? (i := 93) rfl)) rfl, rfl, by decide⟩, List.forall_mem_cons.mpr ⟨⟨tb (tm1 _ (List.mem_of_getElem? (i := 86) rfl)) rfl, rfl, by decide⟩, List.forall_mem_cons.mpr ⟨⟨tb (tm1 _ (List.mem_of_getElem? (i := 87) rfl)) rfl, rfl, by decide⟩, List.forall_mem_cons.mpr ⟨⟨tb (tm1 _ (List.mem_of_getElem? (i := 50) rfl)) rfl, rfl, by decide⟩, List.forall_mem_cons.mpr ⟨⟨tb (tm1 _ (List.mem_of_getElem? (i := 51) rfl)) rfl, rfl, by decide⟩, List.forall_mem_cons.mpr ⟨⟨tb (tm1 _ (List.mem_of_getElem? (i := 52) rfl)) rfl, rfl, by decide⟩, List.forall_mem_cons.mpr ⟨⟨tb (tm1 _ (List.mem_of_getElem? (i := 53) rfl)) rfl, rfl, by decide⟩, List.forall_mem_cons.mpr ⟨⟨tb (tm1 _ (List.mem_of_getElem? (i := 72) rfl)) rfl, rfl, by decide⟩, List.forall_mem_cons.mpr ⟨⟨tb (tm1 _ (List.mem_of_getElem? (i := 73) rfl)) rfl, rfl, by decide⟩, List.forall_mem_cons.mpr ⟨⟨tb (tm1 _ (List.mem_of_getElem? (i := 200) rfl)) rfl, rfl, by decide⟩, List.forall_mem_cons.mpr ⟨⟨tb (tm1 _ (List.mem_of_getElem? (i := 202) rfl)) rfl, rfl, by decide⟩, List.forall_mem_cons.mpr ⟨⟨tb (tm1 _ (List.mem_of_getElem? (i := 204) rfl)) rfl, rfl, by decide⟩, List.forall_mem_cons.mpr ⟨⟨tb (tm1 _ (List.mem_of_getElem? (i := 206) rfl)) rfl, rfl, by decide⟩, List.forall_mem_cons.mpr ⟨⟨tb (tm1 _ (List.mem_of_getElem? (i := 208) rfl)) rfl, rfl, by decide⟩, List.forall_mem_cons.mpr ⟨⟨tb (tm1 _ (List.mem_of_getElem? (i := 210) rfl)) rfl, rfl, by decide⟩, List.forall_mem_cons.mpr ⟨⟨tb (tm1 _ (List.mem_of_getElem? (i := 180) rfl)) rfl, rfl, by decide⟩, List.forall_mem_cons.mpr ⟨⟨tb (tm1 _ (List.mem_of_getElem? (i := 181) rfl)) rfl, rfl, by decide⟩, List.forall_mem_cons.mpr ⟨⟨tb (tm1 _ (List.mem_of_getElem? (i := 182) rfl)) rfl, rfl, by decide⟩, List.forall_mem_cons.mpr ⟨⟨tb (tm1 _ (List.mem_of_getElem? (i := 177) rfl)) rfl, rfl, by decide⟩, List.forall_mem_cons.mpr ⟨⟨tb (tm1 _ (List.mem_of_getElem? (i := 178) rfl)) rfl, rfl, by decide⟩, List.forall_mem_cons.mpr ⟨⟨tb (tm1 _ (List.mem_of_getElem? (i := 179) rfl)) rfl, rfl, by decide⟩, List.forall_mem_cons.mpr ⟨⟨tb (tm1 _ (List.mem_of_getElem? (i := 33) rfl)) rfl, rfl, by decide⟩, List.forall_mem_cons.mpr ⟨⟨tb (tm1 _ (List.mem_of_getElem? (i := 34) rfl)) rfl, rfl, by decide⟩, List.forall_mem_cons.mpr ⟨⟨tb (tm1 _ (List.mem_of_getElem? (i := 122) rfl)) rfl, rfl, by decide⟩, List.forall_mem_cons.mpr ⟨⟨tb (tm1 _ (List.mem_of_getElem? (i := 123) rfl)) rfl, rfl, by decide⟩, List.forall_mem_cons.mpr ⟨⟨tb (tm1 _ (List.mem_of_getElem? (i := 124) rfl)) rfl, rfl, by decide⟩, List.forall_mem_cons.mpr ⟨⟨tb (tm1 _ (List.mem_of_getElem? (i := 125) rfl)) rfl, rfl, by decide⟩, List.forall_mem_cons.mpr ⟨⟨tb (tm1 _ (List.mem_of_getElem? (i := 126) rfl)) rfl, rfl, by decide⟩, List.forall_mem_cons.mpr ⟨⟨tb (tm1 _ (List.mem_of_getElem? (i := 127) rfl)) rfl, rfl, by decide⟩, List.forall_mem_cons.mpr ⟨⟨tb (tm1 _ (List.mem_of_getElem? (i := 128) rfl)) rfl, rfl, by decide⟩, List.forall_mem_cons.mpr ⟨⟨tb (tm1 _ (List.mem_of_getElem? (i := 119) rfl)) rfl, rfl, by decide⟩, List.forall_mem_cons.mpr ⟨⟨tb (tm1 _ (List.mem_of_getElem? (i := 120) rfl)) rfl, rfl, by decide⟩, List.forall_mem_cons.mpr ⟨⟨tb (tm1 _ (List.mem_of_getElem? (i := 121) rfl)) rfl, rfl, by decide⟩, List.forall_mem_cons.mpr ⟨⟨tb (tm1 _ (List.mem_of_getElem? (i := 156) rfl)) rfl, rfl, by decide⟩, List.forall_mem_cons.mpr ⟨⟨tb (tm1 _ (List.mem_of_getElem? (i := 157) rfl)) rfl, rfl, by decide⟩, List.forall_mem_cons.mpr ⟨⟨tb (tm1 _ (List.mem_of_getElem? (i := 158) rfl)) rfl, rfl, by decide⟩, List.forall_mem_cons.mpr ⟨⟨tb (tm1 _ (List.mem_of_getElem? (i := 159) rfl)) rfl, rfl, by decide⟩, List.forall_mem_cons.mpr ⟨⟨tb (tm1 _ (List.mem_of_getElem? (i := 225) rfl)) rfl, rfl, by decide⟩, List.forall_mem_cons.mpr ⟨⟨tb (tm1 _ (List.mem_of_getElem? (i := 226) rfl)) rfl, rfl, by decide⟩, List.forall_mem_cons.mpr ⟨⟨tb (tm1 _ (List.mem_of_getElem? (i := 201) rfl)) rfl, rfl, by decide⟩, List.forall_mem_cons.mpr ⟨⟨tb (tm1 _ (List.mem_of_getElem? (i := 203) rfl)) rfl, rfl, by decide⟩, List.forall_mem_cons.mpr ⟨⟨tb (tm1 _ (List.mem_of_getElem? (i := 205) rfl)) rfl, rfl, by decide⟩, List.forall_mem_cons.mpr ⟨⟨tb (tm1 _ (List.mem_of_getElem? (i := 207) rfl)) rfl, rfl, by decide⟩, List.forall_mem_cons.mpr ⟨⟨tb (tm1 _ (List.mem_of_getElem? (i := 209) rfl)) rfl, rfl, by decide⟩, List.forall_mem_cons.mpr ⟨⟨tb (tm1 _ (List.mem_of_getElem? (i := 211) rfl)) rfl, rfl, by decide⟩, List.forall_mem_cons.mpr ⟨⟨tb (tm4 _ (List.mem_of_getElem? (i := 115) rfl)) rfl, rfl, by decide⟩, List.forall_mem_cons.mpr ⟨⟨tb (tm4 _ (List.mem_of_getElem? (i := 116) rfl)) rfl, rfl, by decide⟩, List.forall_mem_cons.mpr ⟨⟨tb (tm4 _ (List.mem_of_getElem? (i := 117) rfl)) rfl, rfl, by decide⟩, List.forall_mem_cons.mpr ⟨⟨tb (tm4 _ (List.mem_of_getElem? (i := 118) rfl)) rfl, rfl, by decide⟩, List.forall_mem_cons.mpr ⟨⟨tb (tm4 _ (List.mem_of_getElem? (i := 119) rfl)) rfl, rfl, by decide⟩, List.forall_mem_cons.mpr ⟨⟨tb (tm4 _ (List.mem_of_getElem? (i := 120) rfl)) rfl, rfl, by decide⟩, List.forall_mem_cons.mpr ⟨⟨tb (tm4 _ (List.mem_of_getElem? (i := 121) rfl)) rfl, rfl, by decide⟩, List.forall_mem_cons.mpr ⟨⟨tb (tm4 _ (List.mem_of_getElem? (i := 122) rfl)) rfl, rfl, by decide⟩, List.forall_mem_cons.mpr ⟨⟨tb (tm4 _ (List.mem_of_getElem? (i := 123) rfl)) rfl, rfl, by decide⟩, List.forall_mem_cons.mpr ⟨⟨tb (tm4 _ (List.mem_of_getElem? (i := 124) rfl)) rfl, rfl, by decide⟩, List.forall_mem_cons.mpr ⟨⟨tb (tm4 _ (List.mem_of_getElem? (i := 125) rfl)) rfl, rfl, by decide⟩, List.forall_mem_cons.mpr ⟨⟨tb (tm4 _ (List.mem_of_getElem? (i := 126) rfl)) rfl, rfl, by decide⟩, List.forall_mem_cons.mpr ⟨⟨tb (tm4 _ (List.mem_of_getElem? (i := 127) rfl)) rfl, rfl, by decide⟩, List.forall_mem_cons.mpr ⟨⟨tb (tm4 _ (List.mem_of_getElem? (i := 128) rfl)) rfl, rfl, by decide⟩, List.forall_mem_cons.mpr ⟨⟨tb (tm4 _ (List.mem_of_getElem? (i := 129) rfl)) rfl, rfl, by decide⟩, List.forall_mem_cons.mpr ⟨⟨tb (tm4 _ (List.mem_of_getElem? (i := 130) rfl)) rfl, rfl, by decide⟩, List.forall_mem_cons.mpr ⟨⟨tb (tm4 _ (List.mem_of_getElem? (i := 131) rfl)) rfl, rfl, by decide⟩, List.forall_mem_cons.mpr ⟨⟨tb (tm4 _ (List.mem_of_getElem? (i := 132) rfl)) rfl, rfl, by decide⟩, List.forall_mem_cons.mpr ⟨⟨tb (tm4 _ (List.mem_of_getElem? (i := 134) rfl)) rfl, rfl, by decide⟩, List.forall_mem_cons.mpr ⟨⟨tb (tm4 _ (List.mem_of_getElem? (i := 135) rfl)) rfl, rfl, by decide⟩, List.forall_mem_cons.mpr ⟨⟨tb (tm4 _ (List.mem_of_getElem? (i := 136) rfl)) rfl, rfl, by decide⟩, List.forall_mem_cons.mpr ⟨⟨tb (tm4 _ (List.mem_of_getElem? (i := 114) rfl)) rfl, rfl, by decide⟩, List.forall_mem_cons.mpr ⟨⟨tb (tm4 _ (List.mem_of_getElem? (i := 113) rfl)) rfl, rfl, by decide⟩, List.forall_mem_cons.mpr ⟨⟨tb (tm4 _ (List.mem_of_getElem? (i := 133) rfl)) rfl, rfl, by decide⟩, fun _ h => absurd h List.not_mem_nil⟩⟩⟩⟩⟩⟩⟩⟩⟩⟩⟩⟩⟩⟩⟩⟩⟩⟩⟩⟩⟩⟩⟩⟩⟩⟩⟩⟩⟩⟩⟩⟩⟩⟩⟩⟩⟩⟩⟩⟩⟩⟩⟩⟩⟩⟩⟩⟩⟩⟩⟩⟩⟩⟩⟩⟩⟩⟩⟩⟩⟩⟩⟩⟩⟩⟩⟩⟩⟩⟩⟩⟩⟩⟩
def mthT : List (Nat × Nat × Nat × Bool) := [(0, 39, 176, false), (0, 45, 19, false), (0, 51, 21, false), (0, 55, 34, false), (0, 61, 22, false), (0, 64, 26, false), (0, 67, 1, false), (0, 70, 25, false), (0, 73, 13, false), (0, 76, 2, false), (0, 79, 5, false), (0, 82, 178, false), (0, 87, 20, false), (0, 91, 33, false), (0, 94, 11, false), (0, 97, 14, false), (1, 25, 19, false), (1, 29, 21, false), (1, 33, 27, false), (1, 36, 25, false), (2, 18, 176, false), (2, 24, 33, false), (3, 37, 18, true), (3, 40, 28, false), (3, 43, 0, false), (3, 48, 59, false), (3, 53, 73, true), (3, 56, 43, false), (3, 59, 35, false), (3, 62, 29, false), (3, 66, 21, false), (3, 70, 47, false), (3, 74, 31, false), (3, 78, 40, false), (3, 81, 41, false), (3, 85, 42, false), (3, 88, 30, false), (3, 91, 48, false), (3, 94, 32, false), (3, 97, 49, false), (3, 100, 16, false), (3, 103, 17, false), (4, 34, 9, false), (4, 40, 77, false), (4, 43, 64, false), (4, 48, 44, false), (4, 49, 6, false), (4, 52, 78, false), (4, 55, 14, false), (4, 59, 13, false), (4, 62, 45, false), (4, 65, 50, false), (4, 69, 65, false), (5, 19, 52, false), (5, 26, 57, false), (5, 30, 58, false), (5, 34, 55, false), (6, 46, 176, false), (6, 52, 67, false), (6, 56, 63, false), (6, 60, 20, false), (6, 66, 21, false), (6, 70, 69, false), (6, 73, 68, false), (6, 76, 71, false), (6, 79, 70, false), (6, 82, 8, false), (6, 87, 178, false), (6, 92, 177, false), (6, 95, 27, false), (6, 98, 34, false), (6, 103, 33, false), (6, 106, 72, false), (8, 9, 51, true), (8, 16, 36, false), (8, 26, 101, false), (8, 30, 37, false), (8, 38, 23, false), (8, 51, 24, false), (8, 55, 100, false), (8, 59, 102, false), (8, 63, 38, false), (8, 68, 39, false), (8, 75, 33, false), (8, 80, 99, false), (8, 83, 103, false), (8, 90, 13, false), (8, 95, 2, false), (8, 98, 3, false), (8, 104, 4, false), (8, 108, 27, false), (8, 112, 34, false), (8, 117, 7, false), (8, 122, 104, false), (8, 125, 8, false), (8, 134, 60, false), (8, 140, 61, false), (8, 145, 62, false), (8, 148, 63, false), (8, 155, 74, false), (8, 161, 75, false), (8, 162, 76, false), (8, 167, 15, false), (8, 175, 44, false), (8, 180, 10, false), (8, 183, 11, false), (8, 186, 12, false), (8, 189, 45, false), (8, 192, 47, false), (8, 196, 48, false), (8, 198, 66, false), (8, 201, 46, false), (8, 204, 49, false), (8, 206, 52, false), (8, 211, 53, false), (8, 214, 54, false), (8, 218, 55, false), (8, 221, 56, false), (8, 227, 19, false), (8, 237, 21, false), (8, 244, 26, false), (8, 247, 1, false), (9, 74, 106, false), (9, 84, 109, false), (9, 88, 112, false), (9, 92, 108, false), (9, 95, 111, false), (9, 98, 114, false), (9, 101, 144, false), (9, 105, 115, false), (9, 109, 145, false), (9, 113, 120, false), (9, 117, 118, false), (9, 120, 110, false), (9, 123, 121, false), (9, 126, 119, false), (9, 129, 126, false), (9, 132, 127, false), (9, 135, 125, false), (9, 138, 128, false), (9, 141, 129, false), (9, 145, 130, false), (9, 149, 132, false), (9, 153, 131, false), (9, 157, 140, false), (9, 161, 141, false), (9, 164, 142, false), (9, 167, 143, false), (9, 174, 150, false), (9, 177, 151, false), (9, 180, 153, false), (9, 183, 154, false), (10, 7, 80, false), (10, 17, 81, false), (10, 22, 82, false), (10, 25, 83, false), (10, 28, 84, false), (10, 32, 85, false), (10, 35, 86, false), (10, 39, 87, false), (10, 43, 88, false), (10, 46, 89, false), (10, 49, 90, false), (10, 52, 91, false), (10, 55, 92, false), (10, 59, 93, false), (10, 62, 94, false), (10, 66, 95, false), (10, 69, 96, false), (10, 73, 97, false), (10, 76, 98, false), (10, 79, 79, false), (10, 82, 105, false), (10, 83, 156, false), (10, 88, 113, false), (10, 89, 107, false), (10, 92, 157, false), (10, 94, 116, false), (10, 95, 158, false), (10, 97, 117, false), (10, 98, 159, false), (10, 100, 122, false), (10, 101, 160, false), (10, 104, 123, false), (10, 105, 161, false), (10, 107, 124, false), (10, 108, 162, false), (10, 111, 133, false), (10, 112, 163, false), (10, 115, 134, false), (10, 116, 164, false), (10, 118, 135, false), (10, 119, 165, false), (10, 121, 136, false), (10, 122, 166, false), (10, 124, 137, false), (10, 125, 167, false), (10, 127, 138, false), (10, 128, 168, false), (10, 131, 139, false), (10, 132, 169, false), (10, 134, 146, false), (10, 135, 170, false), (10, 138, 147, false), (10, 139, 171, false), (10, 141, 148, false), (10, 142, 172, false), (10, 145, 149, false), (10, 146, 173, false), (10, 148, 152, false), (10, 149, 174, false), (10, 151, 155, false)]
def mthW (e : Nat × Nat × Nat × Bool) : Cond := if e.2.2.2 = true then .methodLinkNest (rn e.1) e.2.1 (my e.2.2.1) "RallyCard" else .methodLink (rn e.1) e.2.1 (my e.2.2.1)
set_option maxRecDepth 100000 in
theorem mthT_ok : ∀ e ∈ mthT, mthW e ∈ TBL ∧ MF e.2.2.1 := List.forall_mem_cons.mpr ⟨⟨tb (tm1 _ (List.mem_of_getElem? (i := 85) rfl)) rfl, mf_176⟩, List.forall_mem_cons.mpr ⟨⟨tb (tm2 _ (List.mem_of_getElem? (i := 173) rfl)) rfl, mf_19⟩, List.forall_mem_cons.mpr ⟨⟨tb (tm3 _ (List.mem_of_getElem? (i := 51) rfl)) rfl, mf_21⟩, List.forall_mem_cons.mpr ⟨⟨tb (tm3 _ (List.mem_of_getElem? (i := 52) rfl)) rfl, mf_34⟩, List.forall_mem_cons.mpr ⟨⟨tb (tm3 _ (List.mem_of_getElem? (i := 57) rfl)) rfl, mf_22⟩, List.forall_mem_cons.mpr ⟨⟨tb (tm3 _ (List.mem_of_getElem? (i := 61) rfl)) rfl, mf_26⟩, List.forall_mem_cons.mpr ⟨⟨tb (tm2 _ (List.mem_of_getElem? (i := 169) rfl)) rfl, mf_1⟩, List.forall_mem_cons.mpr ⟨⟨tb (tm3 _ (List.mem_of_getElem? (i := 69) rfl)) rfl, mf_25⟩, List.forall_mem_cons.mpr ⟨⟨tb (tm3 _ (List.mem_of_getElem? (i := 81) rfl)) rfl, mf_13⟩, List.forall_mem_cons.mpr ⟨⟨tb (tm3 _ (List.mem_of_getElem? (i := 82) rfl)) rfl, mf_2⟩, List.forall_mem_cons.mpr ⟨⟨tb (tm3 _ (List.mem_of_getElem? (i := 88) rfl)) rfl, mf_5⟩, List.forall_mem_cons.mpr ⟨⟨tb (tm3 _ (List.mem_of_getElem? (i := 92) rfl)) rfl, mf_178⟩, List.forall_mem_cons.mpr ⟨⟨tb (tm4 _ (List.mem_of_getElem? (i := 36) rfl)) rfl, mf_20⟩, List.forall_mem_cons.mpr ⟨⟨tb (tm3 _ (List.mem_of_getElem? (i := 109) rfl)) rfl, mf_33⟩, List.forall_mem_cons.mpr ⟨⟨tb (tm2 _ (List.mem_of_getElem? (i := 178) rfl)) rfl, mf_11⟩, List.forall_mem_cons.mpr ⟨⟨tb (tm3 _ (List.mem_of_getElem? (i := 10) rfl)) rfl, mf_14⟩, List.forall_mem_cons.mpr ⟨⟨tb (tm2 _ (List.mem_of_getElem? (i := 88) rfl)) rfl, mf_19⟩, List.forall_mem_cons.mpr ⟨⟨tb (tm2 _ (List.mem_of_getElem? (i := 84) rfl)) rfl, mf_21⟩, List.forall_mem_cons.mpr ⟨⟨tb (tm2 _ (List.mem_of_getElem? (i := 112) rfl)) rfl, mf_27⟩, List.forall_mem_cons.mpr ⟨⟨tb (tm3 _ (List.mem_of_getElem? (i := 65) rfl)) rfl, mf_25⟩, List.forall_mem_cons.mpr ⟨⟨tb (tm1 _ (List.mem_of_getElem? (i := 69) rfl)) rfl, mf_176⟩, List.forall_mem_cons.mpr ⟨⟨tb (tm3 _ (List.mem_of_getElem? (i := 56) rfl)) rfl, mf_33⟩, List.forall_mem_cons.mpr ⟨⟨tb (tm1 _ (List.mem_of_getElem? (i := 46) rfl)) rfl, mf_18⟩, List.forall_mem_cons.mpr ⟨⟨tb (tm1 _ (List.mem_of_getElem? (i := 65) rfl)) rfl, mf_28⟩, List.forall_mem_cons.mpr ⟨⟨tb (tm1 _ (List.mem_of_getElem? (i := 81) rfl)) rfl, mf_0⟩, List.forall_mem_cons.mpr ⟨⟨tb (tm1 _ (List.mem_of_getElem? (i := 114) rfl)) rfl, mf_59⟩, List.forall_mem_cons.mpr ⟨⟨tb (tm1 _ (List.mem_of_getElem? (i := 152) rfl)) rfl, mf_73⟩, List.forall_mem_cons.mpr ⟨⟨tb (tm1 _ (List.mem_of_getElem? (i := 173) rfl)) rfl, mf_43⟩, List.forall_mem_cons.mpr ⟨⟨tb (tm1 _ (List.mem_of_getElem? (i := 196) rfl)) rfl, mf_35⟩, List.forall_mem_cons.mpr ⟨⟨tb (tm2 _ (List.mem_of_getElem? (i := 76) rfl)) rfl, mf_29⟩, List.forall_mem_cons.mpr ⟨⟨tb (tm2 _ (List.mem_of_getElem? (i := 155) rfl)) rfl, mf_21⟩, List.forall_mem_cons.mpr ⟨⟨tb (tm2 _ (List.mem_of_getElem? (i := 161) rfl)) rfl, mf_47⟩, List.forall_mem_cons.mpr ⟨⟨tb (tm2 _ (List.mem_of_getElem? (i := 218) rfl)) rfl, mf_31⟩, List.forall_mem_cons.mpr ⟨⟨tb (tm2 _ (List.mem_of_getElem? (i := 222) rfl)) rfl, mf_40⟩, List.forall_mem_cons.mpr ⟨⟨tb (tm2 _ (List.mem_of_getElem? (i := 234) rfl)) rfl, mf_41⟩, List.forall_mem_cons.mpr ⟨⟨tb (tm3 _ (List.mem_of_getElem? (i := 2) rfl)) rfl, mf_42⟩, List.forall_mem_cons.mpr ⟨⟨tb (tm3 _ (List.mem_of_getElem? (i := 15) rfl)) rfl, mf_30⟩, List.forall_mem_cons.mpr ⟨⟨tb (tm2 _ (List.mem_of_getElem? (i := 226) rfl)) rfl, mf_48⟩, List.forall_mem_cons.mpr ⟨⟨tb (tm2 _ (List.mem_of_getElem? (i := 230) rfl)) rfl, mf_32⟩, List.forall_mem_cons.mpr ⟨⟨tb (tm2 _ (List.mem_of_getElem? (i := 238) rfl)) rfl, mf_49⟩, List.forall_mem_cons.mpr ⟨⟨tb (tm3 _ (List.mem_of_getElem? (i := 6) rfl)) rfl, mf_16⟩, List.forall_mem_cons.mpr ⟨⟨tb (tm3 _ (List.mem_of_getElem? (i := 11) rfl)) rfl, mf_17⟩, List.forall_mem_cons.mpr ⟨⟨tb (tm2 _ (List.mem_of_getElem? (i := 202) rfl)) rfl, mf_9⟩, List.forall_mem_cons.mpr ⟨⟨tb (tm2 _ (List.mem_of_getElem? (i := 206) rfl)) rfl, mf_77⟩, List.forall_mem_cons.mpr ⟨⟨tb (tm2 _ (List.mem_of_getElem? (i := 186) rfl)) rfl, mf_64⟩, List.forall_mem_cons.mpr ⟨⟨tb (tm2 _ (List.mem_of_getElem? (i := 198) rfl)) rfl, mf_44⟩, List.forall_mem_cons.mpr ⟨⟨tb (tm4 _ (List.mem_of_getElem? (i := 32) rfl)) rfl, mf_6⟩, List.forall_mem_cons.mpr ⟨⟨tb (tm4 _ (List.mem_of_getElem? (i := 37) rfl)) rfl, mf_78⟩, List.forall_mem_cons.mpr ⟨⟨tb (tm2 _ (List.mem_of_getElem? (i := 165) rfl)) rfl, mf_14⟩, List.forall_mem_cons.mpr ⟨⟨tb (tm2 _ (List.mem_of_getElem? (i := 174) rfl)) rfl, mf_13⟩, List.forall_mem_cons.mpr ⟨⟨tb (tm2 _ (List.mem_of_getElem? (i := 182) rfl)) rfl, mf_45⟩, List.forall_mem_cons.mpr ⟨⟨tb (tm2 _ (List.mem_of_getElem? (i := 210) rfl)) rfl, mf_50⟩, List.forall_mem_cons.mpr ⟨⟨tb (tm2 _ (List.mem_of_getElem? (i := 214) rfl)) rfl, mf_65⟩, List.forall_mem_cons.mpr ⟨⟨tb (tm4 _ (List.mem_of_getElem? (i := 65) rfl)) rfl, mf_52⟩, List.forall_mem_cons.mpr ⟨⟨tb (tm4 _ (List.mem_of_getElem? (i := 94) rfl)) rfl, mf_57⟩, List.forall_mem_cons.mpr ⟨⟨tb (tm4 _ (List.mem_of_getElem? (i := 98) rfl)) rfl, mf_58⟩, List.forall_mem_cons.mpr ⟨⟨tb (tm4 _ (List.mem_of_getElem? (i := 102) rfl)) rfl, mf_55⟩, List.forall_mem_cons.mpr ⟨⟨tb (tm1 _ (List.mem_of_getElem? (i := 118) rfl)) rfl, mf_176⟩, List.forall_mem_cons.mpr ⟨⟨tb (tm3 _ (List.mem_of_getElem? (i := 134) rfl)) rfl, mf_67⟩, List.forall_mem_cons.mpr ⟨⟨tb (tm2 _ (List.mem_of_getElem? (i := 194) rfl)) rfl, mf_63⟩, List.forall_mem_cons.mpr ⟨⟨tb (tm2 _ (List.mem_of_getElem? (i := 190) rfl)) rfl, mf_20⟩, List.forall_mem_cons.mpr ⟨⟨tb (tm4 _ (List.mem_of_getElem? (i := 27) rfl)) rfl, mf_21⟩, List.forall_mem_cons.mpr ⟨⟨tb (tm3 _ (List.mem_of_getElem? (i := 138) rfl)) rfl, mf_69⟩, List.forall_mem_cons.mpr ⟨⟨tb (tm3 _ (List.mem_of_getElem? (i := 151) rfl)) rfl, mf_68⟩, List.forall_mem_cons.mpr ⟨⟨tb (tm3 _ (List.mem_of_getElem? (i := 155) rfl)) rfl, mf_71⟩, List.forall_mem_cons.mpr ⟨⟨tb (tm3 _ (List.mem_of_getElem? (i := 142) rfl)) rfl, mf_70⟩, List.forall_mem_cons.mpr ⟨⟨tb (tm3 _ (List.mem_of_getElem? (i := 149) rfl)) rfl, mf_8⟩, List.forall_mem_cons.mpr ⟨⟨tb (tm3 _ (List.mem_of_getElem? (i := 150) rfl)) rfl, mf_178⟩, List.forall_mem_cons.mpr ⟨⟨tb (tm3 _ (List.mem_of_getElem? (i := 146) rfl)) rfl, mf_177⟩, List.forall_mem_cons.mpr ⟨⟨tb (tm3 _ (List.mem_of_getElem? (i := 159) rfl)) rfl, mf_27⟩, List.forall_mem_cons.mpr ⟨⟨tb (tm3 _ (List.mem_of_getElem? (i := 160) rfl)) rfl, mf_34⟩, List.forall_mem_cons.mpr ⟨⟨tb (tm3 _ (List.mem_of_getElem? (i := 161) rfl)) rfl, mf_33⟩, List.forall_mem_cons.mpr ⟨⟨tb (tm3 _ (List.mem_of_getElem? (i := 162) rfl)) rfl, mf_72⟩, List.forall_mem_cons.mpr ⟨⟨tb (tm1 _ (List.mem_of_getElem? (i := 29) rfl)) rfl, mf_51⟩, List.forall_mem_cons.mpr ⟨⟨tb (tm1 _ (List.mem_of_getElem? (i := 41) rfl)) rfl, mf_36⟩, List.forall_mem_cons.mpr ⟨⟨tb (tm2 _ (List.mem_of_getElem? (i := 1) rfl)) rfl, mf_101⟩, List.forall_mem_cons.mpr ⟨⟨tb (tm2 _ (List.mem_of_getElem? (i := 72) rfl)) rfl, mf_37⟩, List.forall_mem_cons.mpr ⟨⟨tb (tm2 _ (List.mem_of_getElem? (i := 80) rfl)) rfl, mf_23⟩, List.forall_mem_cons.mpr ⟨⟨tb (tm2 _ (List.mem_of_getElem? (i := 108) rfl)) rfl, mf_24⟩, List.forall_mem_cons.mpr ⟨⟨tb (tm2 _ (List.mem_of_getElem? (i := 124) rfl)) rfl, mf_100⟩, List.forall_mem_cons.mpr ⟨⟨tb (tm2 _ (List.mem_of_getElem? (i := 145) rfl)) rfl, mf_102⟩, List.forall_mem_cons.mpr ⟨⟨tb (tm2 _ (List.mem_of_getElem? (i := 151) rfl)) rfl, mf_38⟩, List.forall_mem_cons.mpr ⟨⟨tb (tm2 _ (List.mem_of_getElem? (i := 157) rfl)) rfl, mf_39⟩, List.forall_mem_cons.mpr ⟨⟨tb (tm3 _ (List.mem_of_getElem? (i := 26) rfl)) rfl, mf_33⟩, List.forall_mem_cons.mpr ⟨⟨tb (tm3 _ (List.mem_of_getElem? (i := 37) rfl)) rfl, mf_99⟩, List.forall_mem_cons.mpr ⟨⟨tb (tm3 _ (List.mem_of_getElem? (i := 41) rfl)) rfl, mf_103⟩, List.forall_mem_cons.mpr ⟨⟨tb (tm3 _ (List.mem_of_getElem? (i := 46) rfl)) rfl, mf_13⟩, List.forall_mem_cons.mpr ⟨⟨tb (tm3 _ (List.mem_of_getElem? (i := 47) rfl)) rfl, mf_2⟩, List.forall_mem_cons.mpr ⟨⟨tb (tm3 _ (List.mem_of_getElem? (i := 77) rfl)) rfl, mf_3⟩, List.forall_mem_cons.mpr ⟨⟨tb (tm3 _ (List.mem_of_getElem? (i := 84) rfl)) rfl, mf_4⟩, List.forall_mem_cons.mpr ⟨⟨tb (tm3 _ (List.mem_of_getElem? (i := 102) rfl)) rfl, mf_27⟩, List.forall_mem_cons.mpr ⟨⟨tb (tm3 _ (List.mem_of_getElem? (i := 103) rfl)) rfl, mf_34⟩, List.forall_mem_cons.mpr ⟨⟨tb (tm3 _ (List.mem_of_getElem? (i := 105) rfl)) rfl, mf_7⟩, List.forall_mem_cons.mpr ⟨⟨tb (tm3 _ (List.mem_of_getElem? (i := 118) rfl)) rfl, mf_104⟩, List.forall_mem_cons.mpr ⟨⟨tb (tm3 _ (List.mem_of_getElem? (i := 125) rfl)) rfl, mf_8⟩, List.forall_mem_cons.mpr ⟨⟨tb (tm3 _ (List.mem_of_getElem? (i := 130) rfl)) rfl, mf_60⟩, List.forall_mem_cons.mpr ⟨⟨tb (tm3 _ (List.mem_of_getElem? (i := 173) rfl)) rfl, mf_61⟩, List.forall_mem_cons.mpr ⟨⟨tb (tm3 _ (List.mem_of_getElem? (i := 185) rfl)) rfl, mf_62⟩, List.forall_mem_cons.mpr ⟨⟨tb (tm3 _ (List.mem_of_getElem? (i := 196) rfl)) rfl, mf_63⟩, List.forall_mem_cons.mpr ⟨⟨tb (tm3 _ (List.mem_of_getElem? (i := 204) rfl)) rfl, mf_74⟩, List.forall_mem_cons.mpr ⟨⟨tb (tm3 _ (List.mem_of_getElem? (i := 209) rfl)) rfl, mf_75⟩, List.forall_mem_cons.mpr ⟨⟨tb (tm3 _ (List.mem_of_getElem? (i := 220) rfl)) rfl, mf_76⟩, List.forall_mem_cons.mpr ⟨⟨tb (tm3 _ (List.mem_of_getElem? (i := 232) rfl)) rfl, mf_15⟩, List.forall_mem_cons.mpr ⟨⟨tb (tm4 _ (List.mem_of_getElem? (i := 3) rfl)) rfl, mf_44⟩, List.forall_mem_cons.mpr ⟨⟨tb (tm4 _ (List.mem_of_getElem? (i := 4) rfl)) rfl, mf_10⟩, List.forall_mem_cons.mpr ⟨⟨tb (tm4 _ (List.mem_of_getElem? (i := 8) rfl)) rfl, mf_11⟩, List.forall_mem_cons.mpr ⟨⟨tb (tm4 _ (List.mem_of_getElem? (i := 9) rfl)) rfl, mf_12⟩, List.forall_mem_cons.mpr ⟨⟨tb (tm4 _ (List.mem_of_getElem? (i := 13) rfl)) rfl, mf_45⟩, List.forall_mem_cons.mpr ⟨⟨tb (tm4 _ (List.mem_of_getElem? (i := 14) rfl)) rfl, mf_47⟩, List.forall_mem_cons.mpr ⟨⟨tb (tm4 _ (List.mem_of_getElem? (i := 15) rfl)) rfl, mf_48⟩, List.forall_mem_cons.mpr ⟨⟨tb (tm4 _ (List.mem_of_getElem? (i := 23) rfl)) rfl, mf_66⟩, List.forall_mem_cons.mpr ⟨⟨tb (tm4 _ (List.mem_of_getElem? (i := 28) rfl)) rfl, mf_46⟩, List.forall_mem_cons.mpr ⟨⟨tb (tm4 _ (List.mem_of_getElem? (i := 48) rfl)) rfl, mf_49⟩, List.forall_mem_cons.mpr ⟨⟨tb (tm4 _ (List.mem_of_getElem? (i := 56) rfl)) rfl, mf_52⟩, List.forall_mem_cons.mpr ⟨⟨tb (tm4 _ (List.mem_of_getElem? (i := 61) rfl)) rfl, mf_53⟩, List.forall_mem_cons.mpr ⟨⟨tb (tm4 _ (List.mem_of_getElem? (i := 66) rfl)) rfl, mf_54⟩, List.forall_mem_cons.mpr ⟨⟨tb (tm4 _ (List.mem_of_getElem? (i := 77) rfl)) rfl, mf_55⟩, List.forall_mem_cons.mpr ⟨⟨tb (tm4 _ (List.mem_of_getElem? (i := 90) rfl)) rfl, mf_56⟩, List.forall_mem_cons.mpr ⟨⟨tb (tm2 _ (List.mem_of_getElem? (i := 128) rfl)) rfl, mf_19⟩, List.forall_mem_cons.mpr ⟨⟨tb (tm2 _ (List.mem_of_getElem? (i := 149) rfl)) rfl, mf_21⟩, List.forall_mem_cons.mpr ⟨⟨tb (tm3 _ (List.mem_of_getElem? (i := 122) rfl)) rfl, mf_26⟩, List.forall_mem_cons.mpr ⟨⟨tb (tm3 _ (List.mem_of_getElem? (i := 123) rfl)) rfl, mf_1⟩, List.forall_mem_cons.mpr ⟨⟨tb (tm4 _ (List.mem_of_getElem? (i := 109) rfl)) rfl, mf_106⟩, List.forall_mem_cons.mpr ⟨⟨tb (tm4 _ (List.mem_of_getElem? (i := 194) rfl)) rfl, mf_109⟩, List.forall_mem_cons.mpr ⟨⟨tb (tm4 _ (List.mem_of_getElem? (i := 197) rfl)) rfl, mf_112⟩, List.forall_mem_cons.mpr ⟨⟨tb (tm4 _ (List.mem_of_getElem? (i := 201) rfl)) rfl, mf_108⟩, List.forall_mem_cons.mpr ⟨⟨tb (tm4 _ (List.mem_of_getElem? (i := 209) rfl)) rfl, mf_111⟩, List.forall_mem_cons.mpr ⟨⟨tb (tm4 _ (List.mem_of_getElem? (i := 213) rfl)) rfl, mf_114⟩, List.forall_mem_cons.mpr ⟨⟨tb (tm4 _ (List.mem_of_getElem? (i := 217) rfl)) rfl, mf_144⟩, List.forall_mem_cons.mpr ⟨⟨tb (tm5 _ (List.mem_of_getElem? (i := 33) rfl)) rfl, mf_115⟩, List.forall_mem_cons.mpr ⟨⟨tb (tm5 _ (List.mem_of_getElem? (i := 37) rfl)) rfl, mf_145⟩, List.forall_mem_cons.mpr ⟨⟨tb (tm4 _ (List.mem_of_getElem? (i := 237) rfl)) rfl, mf_120⟩, List.forall_mem_cons.mpr ⟨⟨tb (tm5 _ (List.mem_of_getElem? (i := 56) rfl)) rfl, mf_118⟩, List.forall_mem_cons.mpr ⟨⟨tb (tm5 _ (List.mem_of_getElem? (i := 49) rfl)) rfl, mf_110⟩, List.forall_mem_cons.mpr ⟨⟨tb (tm5 _ (List.mem_of_getElem? (i := 52) rfl)) rfl, mf_121⟩, List.forall_mem_cons.mpr ⟨⟨tb (tm4 _ (List.mem_of_getElem? (i := 233) rfl)) rfl, mf_119⟩, List.forall_mem_cons.mpr ⟨⟨tb (tm5 _ (List.mem_of_getElem? (i := 13) rfl)) rfl, mf_126⟩, List.forall_mem_cons.mpr ⟨⟨tb (tm5 _ (List.mem_of_getElem? (i := 9) rfl)) rfl, mf_127⟩, List.forall_mem_cons.mpr ⟨⟨tb (tm5 _ (List.mem_of_getElem? (i := 16) rfl)) rfl, mf_125⟩, List.forall_mem_cons.mpr ⟨⟨tb (tm5 _ (List.mem_of_getElem? (i := 5) rfl)) rfl, mf_128⟩, List.forall_mem_cons.mpr ⟨⟨tb (tm5 _ (List.mem_of_getElem? (i := 1) rfl)) rfl, mf_129⟩, List.forall_mem_cons.mpr ⟨⟨tb (tm4 _ (List.mem_of_getElem? (i := 229) rfl)) rfl, mf_130⟩, List.forall_mem_cons.mpr ⟨⟨tb (tm5 _ (List.mem_of_getElem? (i := 73) rfl)) rfl, mf_132⟩, List.forall_mem_cons.mpr ⟨⟨tb (tm4 _ (List.mem_of_getElem? (i := 225) rfl)) rfl, mf_131⟩, List.forall_mem_cons.mpr ⟨⟨tb (tm5 _ (List.mem_of_getElem? (i := 20) rfl)) rfl, mf_140⟩, List.forall_mem_cons.mpr ⟨⟨tb (tm4 _ (List.mem_of_getElem? (i := 221) rfl)) rfl, mf_141⟩, List.forall_mem_cons.mpr ⟨⟨tb (tm5 _ (List.mem_of_getElem? (i := 24) rfl)) rfl, mf_142⟩, List.forall_mem_cons.mpr ⟨⟨tb (tm5 _ (List.mem_of_getElem? (i := 28) rfl)) rfl, mf_143⟩, List.forall_mem_cons.mpr ⟨⟨tb (tm5 _ (List.mem_of_getElem? (i := 126) rfl)) rfl, mf_150⟩, List.forall_mem_cons.mpr ⟨⟨tb (tm5 _ (List.mem_of_getElem? (i := 122) rfl)) rfl, mf_151⟩, List.forall_mem_cons.mpr ⟨⟨tb (tm5 _ (List.mem_of_getElem? (i := 137) rfl)) rfl, mf_153⟩, List.forall_mem_cons.mpr ⟨⟨tb (tm5 _ (List.mem_of_getElem? (i := 133) rfl)) rfl, mf_154⟩, List.forall_mem_cons.mpr ⟨⟨tb (tm1 _ (List.mem_of_getElem? (i := 237) rfl)) rfl, mf_80⟩, List.forall_mem_cons.mpr ⟨⟨tb (tm2 _ (List.mem_of_getElem? (i := 120) rfl)) rfl, mf_81⟩, List.forall_mem_cons.mpr ⟨⟨tb (tm3 _ (List.mem_of_getElem? (i := 22) rfl)) rfl, mf_82⟩, List.forall_mem_cons.mpr ⟨⟨tb (tm3 _ (List.mem_of_getElem? (i := 33) rfl)) rfl, mf_83⟩, List.forall_mem_cons.mpr ⟨⟨tb (tm3 _ (List.mem_of_getElem? (i := 73) rfl)) rfl, mf_84⟩, List.forall_mem_cons.mpr ⟨⟨tb (tm3 _ (List.mem_of_getElem? (i := 98) rfl)) rfl, mf_85⟩, List.forall_mem_cons.mpr ⟨⟨tb (tm3 _ (List.mem_of_getElem? (i := 113) rfl)) rfl, mf_86⟩, List.forall_mem_cons.mpr ⟨⟨tb (tm3 _ (List.mem_of_getElem? (i := 169) rfl)) rfl, mf_87⟩, List.forall_mem_cons.mpr ⟨⟨tb (tm3 _ (List.mem_of_getElem? (i := 180) rfl)) rfl, mf_88⟩, List.forall_mem_cons.mpr ⟨⟨tb (tm3 _ (List.mem_of_getElem? (i := 192) rfl)) rfl, mf_89⟩, List.forall_mem_cons.mpr ⟨⟨tb (tm3 _ (List.mem_of_getElem? (i := 200) rfl)) rfl, mf_90⟩, List.forall_mem_cons.mpr ⟨⟨tb (tm3 _ (List.mem_of_getElem? (i := 216) rfl)) rfl, mf_91⟩, List.forall_mem_cons.mpr ⟨⟨tb (tm3 _ (List.mem_of_getElem? (i := 227) rfl)) rfl, mf_92⟩, List.forall_mem_cons.mpr ⟨⟨tb (tm3 _ (List.mem_of_getElem? (i := 239) rfl)) rfl, mf_93⟩, List.forall_mem_cons.mpr ⟨⟨tb (tm4 _ (List.mem_of_getElem? (i := 19) rfl)) rfl, mf_94⟩, List.forall_mem_cons.mpr ⟨⟨tb (tm4 _ (List.mem_of_getElem? (i := 44) rfl)) rfl, mf_95⟩, List.forall_mem_cons.mpr ⟨⟨tb (tm4 _ (List.mem_of_getElem? (i := 52) rfl)) rfl, mf_96⟩, List.forall_mem_cons.mpr ⟨⟨tb (tm4 _ (List.mem_of_getElem? (i := 73) rfl)) rfl, mf_97⟩, List.forall_mem_cons.mpr ⟨⟨tb (tm4 _ (List.mem_of_getElem? (i := 86) rfl)) rfl, mf_98⟩, List.forall_mem_cons.mpr ⟨⟨tb (tm1 _ (List.mem_of_getElem? (i := 21) rfl)) rfl, mf_79⟩, List.forall_mem_cons.mpr ⟨⟨tb (tm4 _ (List.mem_of_getElem? (i := 105) rfl)) rfl, mf_105⟩, List.forall_mem_cons.mpr ⟨⟨tb (tm1 _ (List.mem_of_getElem? (i := 232) rfl)) rfl, mf_156⟩, List.forall_mem_cons.mpr ⟨⟨tb (tm4 _ (List.mem_of_getElem? (i := 190) rfl)) rfl, mf_113⟩, List.forall_mem_cons.mpr ⟨⟨tb (tm4 _ (List.mem_of_getElem? (i := 186) rfl)) rfl, mf_107⟩, List.forall_mem_cons.mpr ⟨⟨tb (tm2 _ (List.mem_of_getElem? (i := 116) rfl)) rfl, mf_157⟩, List.forall_mem_cons.mpr ⟨⟨tb (tm4 _ (List.mem_of_getElem? (i := 205) rfl)) rfl, mf_116⟩, List.forall_mem_cons.mpr ⟨⟨tb (tm3 _ (List.mem_of_getElem? (i := 19) rfl)) rfl, mf_158⟩, List.forall_mem_cons.mpr ⟨⟨tb (tm5 _ (List.mem_of_getElem? (i := 41) rfl)) rfl, mf_117⟩, List.forall_mem_cons.mpr ⟨⟨tb (tm3 _ (List.mem_of_getElem? (i := 30) rfl)) rfl, mf_159⟩, List.forall_mem_cons.mpr ⟨⟨tb (tm5 _ (List.mem_of_getElem? (i := 45) rfl)) rfl, mf_122⟩, List.forall_mem_cons.mpr ⟨⟨tb (tm3 _ (List.mem_of_getElem? (i := 70) rfl)) rfl, mf_160⟩, List.forall_mem_cons.mpr ⟨⟨tb (tm5 _ (List.mem_of_getElem? (i := 60) rfl)) rfl, mf_123⟩, List.forall_mem_cons.mpr ⟨⟨tb (tm3 _ (List.mem_of_getElem? (i := 95) rfl)) rfl, mf_161⟩, List.forall_mem_cons.mpr ⟨⟨tb (tm5 _ (List.mem_of_getElem? (i := 64) rfl)) rfl, mf_124⟩, List.forall_mem_cons.mpr ⟨⟨tb (tm3 _ (List.mem_of_getElem? (i := 110) rfl)) rfl, mf_162⟩, List.forall_mem_cons.mpr ⟨⟨tb (tm5 _ (List.mem_of_getElem? (i := 68) rfl)) rfl, mf_133⟩, List.forall_mem_cons.mpr ⟨⟨tb (tm3 _ (List.mem_of_getElem? (i := 166) rfl)) rfl, mf_163⟩, List.forall_mem_cons.mpr ⟨⟨tb (tm5 _ (List.mem_of_getElem? (i := 77) rfl)) rfl, mf_134⟩, List.forall_mem_cons.mpr ⟨⟨tb (tm3 _ (List.mem_of_getElem? (i := 177) rfl)) rfl, mf_164⟩, List.forall_mem_cons.mpr ⟨⟨tb (tm5 _ (List.mem_of_getElem? (i := 81) rfl)) rfl, mf_135⟩, List.forall_mem_cons.mpr ⟨⟨tb (tm3 _ (List.mem_of_getElem? (i := 189) rfl)) rfl, mf_165⟩, List.forall_mem_cons.mpr ⟨⟨tb (tm5 _ (List.mem_of_getElem? (i := 86) rfl)) rfl, mf_136⟩, List.forall_mem_cons.mpr ⟨⟨tb (tm3 _ (List.mem_of_getElem? (i := 197) rfl)) rfl, mf_166⟩, List.forall_mem_cons.mpr ⟨⟨tb (tm5 _ (List.mem_of_getElem? (i := 90) rfl)) rfl, mf_137⟩, List.forall_mem_cons.mpr ⟨⟨tb (tm3 _ (List.mem_of_getElem? (i := 213) rfl)) rfl, mf_167⟩, List.forall_mem_cons.mpr ⟨⟨tb (tm5 _ (List.mem_of_getElem? (i := 94) rfl)) rfl, mf_138⟩, List.forall_mem_cons.mpr ⟨⟨tb (tm3 _ (List.mem_of_getElem? (i := 224) rfl)) rfl, mf_168⟩, List.forall_mem_cons.mpr ⟨⟨tb (tm5 _ (List.mem_of_getElem? (i := 98) rfl)) rfl, mf_139⟩, List.forall_mem_cons.mpr ⟨⟨tb (tm3 _ (List.mem_of_getElem? (i := 236) rfl)) rfl, mf_169⟩, List.forall_mem_cons.mpr ⟨⟨tb (tm5 _ (List.mem_of_getElem? (i := 102) rfl)) rfl, mf_146⟩, List.forall_mem_cons.mpr ⟨⟨tb (tm4 _ (List.mem_of_getElem? (i := 16) rfl)) rfl, mf_170⟩, List.forall_mem_cons.mpr ⟨⟨tb (tm5 _ (List.mem_of_getElem? (i := 106) rfl)) rfl, mf_147⟩, List.forall_mem_cons.mpr ⟨⟨tb (tm4 _ (List.mem_of_getElem? (i := 41) rfl)) rfl, mf_171⟩, List.forall_mem_cons.mpr ⟨⟨tb (tm5 _ (List.mem_of_getElem? (i := 110) rfl)) rfl, mf_148⟩, List.forall_mem_cons.mpr ⟨⟨tb (tm4 _ (List.mem_of_getElem? (i := 49) rfl)) rfl, mf_172⟩, List.forall_mem_cons.mpr ⟨⟨tb (tm5 _ (List.mem_of_getElem? (i := 114) rfl)) rfl, mf_149⟩, List.forall_mem_cons.mpr ⟨⟨tb (tm4 _ (List.mem_of_getElem? (i := 70) rfl)) rfl, mf_173⟩, List.forall_mem_cons.mpr ⟨⟨tb (tm5 _ (List.mem_of_getElem? (i := 118) rfl)) rfl, mf_152⟩, List.forall_mem_cons.mpr ⟨⟨tb (tm4 _ (List.mem_of_getElem? (i := 83) rfl)) rfl, mf_174⟩, List.forall_mem_cons.mpr ⟨⟨tb (tm5 _ (List.mem_of_getElem? (i := 129) rfl)) rfl, mf_155⟩, fun _ h => absurd h List.not_mem_nil⟩⟩⟩⟩⟩⟩⟩⟩⟩⟩⟩⟩⟩⟩⟩⟩⟩⟩⟩⟩⟩⟩⟩⟩⟩⟩⟩⟩⟩⟩⟩⟩⟩⟩⟩⟩⟩⟩⟩⟩⟩⟩⟩⟩⟩⟩⟩⟩⟩⟩⟩⟩⟩⟩⟩⟩⟩⟩⟩⟩⟩⟩⟩⟩⟩⟩⟩⟩⟩⟩⟩⟩⟩⟩⟩⟩⟩⟩⟩⟩⟩⟩⟩⟩⟩⟩⟩⟩⟩⟩⟩⟩⟩⟩⟩⟩⟩⟩⟩⟩⟩⟩⟩⟩⟩⟩⟩⟩⟩⟩⟩⟩⟩⟩⟩⟩⟩⟩⟩⟩⟩⟩⟩⟩⟩⟩⟩⟩⟩⟩⟩⟩⟩⟩⟩⟩⟩⟩⟩⟩⟩⟩⟩⟩⟩⟩⟩⟩⟩⟩⟩⟩⟩⟩⟩⟩⟩⟩⟩⟩⟩⟩⟩⟩⟩⟩⟩⟩⟩⟩⟩⟩⟩⟩⟩⟩⟩⟩⟩⟩⟩⟩⟩⟩⟩⟩⟩⟩⟩⟩⟩⟩⟩⟩⟩⟩⟩⟩⟩⟩⟩⟩⟩⟩⟩⟩⟩⟩⟩⟩⟩⟩
def objT : List (Nat × Nat × Unit) := [(0, 3, ()), (1, 3, ()), (2, 3, ()), (3, 3, ()), (4, 3, ()), (5, 3, ()), (6, 3, ()), (7, 3, ()), (8, 1, ()), (9, 1, ())]
set_option maxRecDepth 100000 in
theorem objT_ok : ∀ e ∈ objT, Cond.methodLink (rn e.1) e.2.1 objectInit ∈ TBL := List.forall_mem_cons.mpr ⟨tb (tm1 _ (List.mem_of_getElem? (i := 84) rfl)) rfl, List.forall_mem_cons.mpr ⟨tb (tm1 _ (List.mem_of_getElem? (i := 49) rfl)) rfl, List.forall_mem_cons.mpr ⟨tb (tm1 _ (List.mem_of_getElem? (i := 68) rfl)) rfl, List.forall_mem_cons.mpr ⟨tb (tm1 _ (List.mem_of_getElem? (i := 199) rfl)) rfl, List.forall_mem_cons.mpr ⟨tb (tm1 _ (List.mem_of_getElem? (i := 176) rfl)) rfl, List.forall_mem_cons.mpr ⟨tb (tm1 _ (List.mem_of_getElem? (i := 32) rfl)) rfl, List.forall_mem_cons.mpr ⟨tb (tm1 _ (List.mem_of_getElem? (i := 117) rfl)) rfl, List.forall_mem_cons.mpr ⟨tb (tm1 _ (List.mem_of_getElem? (i := 155) rfl)) rfl, List.forall_mem_cons.mpr ⟨tb (tm1 _ (List.mem_of_getElem? (i := 24) rfl)) rfl, List.forall_mem_cons.mpr ⟨tb (tm4 _ (List.mem_of_getElem? (i := 108) rfl)) rfl, fun _ h => absurd h List.not_mem_nil⟩⟩⟩⟩⟩⟩⟩⟩⟩⟩
theorem objI : Cond.instanceMethod objectInit ∈ TBL := tb (tm1 _ (List.mem_of_getElem? (i := 25) rfl)) rfl
theorem objC : Cond.code objectInit ⟨#[0xb1]⟩ 1 none ∈ TBL := tb (tm1 _ (List.mem_of_getElem? (i := 26) rfl)) rfl
def clsT : List (Nat × Nat × Nat) := [(3, 10, 3), (3, 35, 1), (3, 38, 2), (3, 41, 0), (3, 46, 6), (3, 51, 7), (3, 54, 4), (8, 7, 5), (10, 8, 8), (10, 80, 9)]
set_option maxRecDepth 100000 in
theorem clsT_ok : ∀ e ∈ clsT, Cond.classLink (rn e.1) e.2.1 (clC e.2.2).1 ∈ TBL ∧ Cond.instantiable (clC e.2.2).1 (clC e.2.2).2.2 ∈ TBL ∧ Cond.initialized (clC e.2.2).1 ∈ TBL ∧ vwCl[e.2.2]? = some (clC e.2.2) := List.forall_mem_cons.mpr ⟨⟨tb (tm1 _ (List.mem_of_getElem? (i := 169) rfl)) rfl, tb (tm1 _ (List.mem_of_getElem? (i := 170) rfl)) rfl, tb (tm1 _ (List.mem_of_getElem? (i := 3) rfl)) rfl, rfl⟩, List.forall_mem_cons.mpr ⟨⟨tb (tm1 _ (List.mem_of_getElem? (i := 44) rfl)) rfl, tb (tm1 _ (List.mem_of_getElem? (i := 45) rfl)) rfl, tb (tm1 _ (List.mem_of_getElem? (i := 4) rfl)) rfl, rfl⟩, List.forall_mem_cons.mpr ⟨⟨tb (tm1 _ (List.mem_of_getElem? (i := 63) rfl)) rfl, tb (tm1 _ (List.mem_of_getElem? (i := 64) rfl)) rfl, tb (tm1 _ (List.mem_of_getElem? (i := 5) rfl)) rfl, rfl⟩, List.forall_mem_cons.mpr ⟨⟨tb (tm1 _ (List.mem_of_getElem? (i := 79) rfl)) rfl, tb (tm1 _ (List.mem_of_getElem? (i := 80) rfl)) rfl, tb (tm1 _ (List.mem_of_getElem? (i := 7) rfl)) rfl, rfl⟩, List.forall_mem_cons.mpr ⟨⟨tb (tm1 _ (List.mem_of_getElem? (i := 112) rfl)) rfl, tb (tm1 _ (List.mem_of_getElem? (i := 113) rfl)) rfl, tb (tm1 _ (List.mem_of_getElem? (i := 8) rfl)) rfl, rfl⟩, List.forall_mem_cons.mpr ⟨⟨tb (tm1 _ (List.mem_of_getElem? (i := 150) rfl)) rfl, tb (tm1 _ (List.mem_of_getElem? (i := 151) rfl)) rfl, tb (tm1 _ (List.mem_of_getElem? (i := 9) rfl)) rfl, rfl⟩, List.forall_mem_cons.mpr ⟨⟨tb (tm1 _ (List.mem_of_getElem? (i := 171) rfl)) rfl, tb (tm1 _ (List.mem_of_getElem? (i := 172) rfl)) rfl, tb (tm1 _ (List.mem_of_getElem? (i := 10) rfl)) rfl, rfl⟩, List.forall_mem_cons.mpr ⟨⟨tb (tm1 _ (List.mem_of_getElem? (i := 27) rfl)) rfl, tb (tm1 _ (List.mem_of_getElem? (i := 28) rfl)) rfl, tb (tm1 _ (List.mem_of_getElem? (i := 2) rfl)) rfl, rfl⟩, List.forall_mem_cons.mpr ⟨⟨tb (tm1 _ (List.mem_of_getElem? (i := 19) rfl)) rfl, tb (tm1 _ (List.mem_of_getElem? (i := 20) rfl)) rfl, tb (tm1 _ (List.mem_of_getElem? (i := 1) rfl)) rfl, rfl⟩, List.forall_mem_cons.mpr ⟨⟨tb (tm4 _ (List.mem_of_getElem? (i := 103) rfl)) rfl, tb (tm4 _ (List.mem_of_getElem? (i := 104) rfl)) rfl, tb (tm1 _ (List.mem_of_getElem? (i := 11) rfl)) rfl, rfl⟩, fun _ h => absurd h List.not_mem_nil⟩⟩⟩⟩⟩⟩⟩⟩⟩⟩
def cstT : List (Nat × Nat × Int32) := [(8, 121, 2000000), (8, 144, 99999), (9, 148, 2000000), (9, 156, 99999), (9, 160, 1000000000)]
set_option maxRecDepth 100000 in
theorem cstT_ok : ∀ e ∈ cstT, Cond.constant (rn e.1) e.2.1 e.2.2 ∈ TBL := List.forall_mem_cons.mpr ⟨tb (tm3 _ (List.mem_of_getElem? (i := 117) rfl)) rfl, List.forall_mem_cons.mpr ⟨tb (tm3 _ (List.mem_of_getElem? (i := 184) rfl)) rfl, List.forall_mem_cons.mpr ⟨tb (tm5 _ (List.mem_of_getElem? (i := 72) rfl)) rfl, List.forall_mem_cons.mpr ⟨tb (tm5 _ (List.mem_of_getElem? (i := 85) rfl)) rfl, List.forall_mem_cons.mpr ⟨tb (tm5 _ (List.mem_of_getElem? (i := 32) rfl)) rfl, fun _ h => absurd h List.not_mem_nil⟩⟩⟩⟩⟩
def staT : List (Nat × Nat × Nat) := [(5, 23, 100001)]
def staC : String := "RallyCard"
def staN : String := "POINTS"
def staD : String := "[I"
set_option maxRecDepth 100000 in
theorem staT_ok : ∀ e ∈ staT, Cond.fieldLinkNest (rn e.1) e.2.1 staC staN staD "RallyCard" ∈ TBL ∧ e.2.2 = 100001 := List.forall_mem_cons.mpr ⟨⟨tb (tm4 _ (List.mem_of_getElem? (i := 81) rfl)) rfl, rfl⟩, fun _ h => absurd h List.not_mem_nil⟩
def excT : List (Nat × Nat × Nat × Nat × Nat × String) := [(8, 44, 46, 48, 0, "the itinerary does not take this item"), (8, 44, 66, 48, 0, "this leg is open, or an earlier one is not"), (8, 44, 102, 48, 0, "the car cannot be stamped there, or was"), (8, 44, 115, 48, 0, "the car is not in the order of the leg"), (8, 44, 128, 48, 0, "the finish is ahead of the start"), (8, 44, 159, 48, 0, "the car has this tyre, or has six"), (8, 44, 165, 48, 0, "the car is retired, or out"), (8, 44, 209, 48, 0, "six rallies are over, or no leg was opened"), (8, 44, 250, 48, 0, "the car was not stamped ahead of the stage"), (8, 222, 224, 226, 2, "there is no such car"), (8, 222, 230, 226, 2, "there is no such item"), (8, 232, 234, 236, 1, "an argument is out of its range"), (8, 232, 240, 236, 1, "the item is of another kind"), (8, 232, 242, 236, 1, "the item is a STAGE")]
def exUp : List String := ["java/lang/RuntimeException", "java/lang/Exception"]
def exAll (own ik ic e : Nat) : List Cond := Cond.classLink (rn own) ik (en e) :: Cond.initialized (en e) :: vx_atS (rn own) ic (en e) exUp
def ctT : List (Nat × Nat × Nat) := [(10, 13, 1), (10, 15, 0), (10, 20, 2)]
set_option maxRecDepth 100000 in
theorem ctT_ok : ∀ e ∈ ctT, Cond.classLink (rn e.1) e.2.1 (en e.2.2) ∈ TBL ∧ e.2.2 < 3 ∧ e.2.1 ≠ 0 := List.forall_mem_cons.mpr ⟨⟨tb (tm1 _ (List.mem_of_getElem? (i := 235) rfl)) rfl, by decide, by decide⟩, List.forall_mem_cons.mpr ⟨⟨tb (tm1 _ (List.mem_of_getElem? (i := 236) rfl)) rfl, by decide, by decide⟩, List.forall_mem_cons.mpr ⟨⟨tb (tm2 _ (List.mem_of_getElem? (i := 119) rfl)) rfl, by decide, by decide⟩, fun _ h => absurd h List.not_mem_nil⟩⟩⟩
def exw0 : List Cond := [.initialized Bundle.tN, .superclass Bundle.tN "java/lang/Object", .instanceMethod Bundle.tFill, .codeSync Bundle.tFill LibCode.Throwable.Fill.code 1 (some (.object Bundle.tN)), .instanceMethod Bundle.tFill0, .native Bundle.tFill0, .instanceMethod Bundle.tInit0, .code Bundle.tInit0 LibCode.Throwable.Init0.code 1 none, .instanceMethod Bundle.oInit, .code Bundle.oInit ⟨#[0xb1]⟩ 1 none, .methodLink Bundle.tN 1 Bundle.oInit, .methodLink Bundle.tN 27 Bundle.tFill, .methodLink Bundle.tN 202 Bundle.tFill0, .fieldLink Bundle.tN 7 Bundle.tN "cause" "Ljava/lang/Throwable;", .lays Bundle.tN Bundle.tN "cause" "Ljava/lang/Throwable;", .fieldLink Bundle.tN 17 Bundle.tN "stackTrace" "[Ljava/lang/StackTraceElement;", .lays Bundle.tN Bundle.tN "stackTrace" "[Ljava/lang/StackTraceElement;", .fieldLink Bundle.tN 24 Bundle.tN "suppressedExceptions" "Ljava/util/List;", .lays Bundle.tN Bundle.tN "suppressedExceptions" "Ljava/util/List;", .fieldLink Bundle.tN 13 Bundle.tN "UNASSIGNED_STACK" "[Ljava/lang/StackTraceElement;", .fieldLink Bundle.tN 20 Bundle.tN "SUPPRESSED_SENTINEL" "Ljava/util/List;", .lays Bundle.tN Bundle.tN "detailMessage" "Ljava/lang/String;", .instanceMethod (Bundle.initS Bundle.tN), .code (Bundle.initS Bundle.tN) LibCode.Throwable.InitS.code 2 none, .fieldLink Bundle.tN 31 Bundle.tN "detailMessage" "Ljava/lang/String;", .lays Bundle.tN Bundle.tN "detailMessage" "Ljava/lang/String;", .instanceMethod (Bundle.initS "java/lang/IllegalStateException"), .code (Bundle.initS "java/lang/IllegalStateException") Bundle.six 2 none, .methodLink "java/lang/IllegalStateException" 7 (Bundle.initS "java/lang/RuntimeException"), .instanceMethod (Bundle.initS "java/lang/RuntimeException"), .declares (Bundle.initS "java/lang/RuntimeException"), .instanceMethod (Bundle.initS "java/lang/RuntimeException"), .code (Bundle.initS "java/lang/RuntimeException") Bundle.six 2 none, .methodLink "java/lang/RuntimeException" 7 (Bundle.initS "java/lang/Exception"), .instanceMethod (Bundle.initS "java/lang/Exception"), .declares (Bundle.initS "java/lang/Exception"), .instanceMethod (Bundle.initS "java/lang/Exception"), .code (Bundle.initS "java/lang/Exception") Bundle.six 2 none, .methodLink "java/lang/Exception" 7 (Bundle.initS "java/lang/Throwable"), .instanceMethod (Bundle.initS "java/lang/Throwable"), .declares (Bundle.initS "java/lang/Throwable"), .methodLink (rn 8) 48 (Bundle.initS "java/lang/IllegalStateException"), .instantiable "java/lang/IllegalStateException" 6, .castable "java/lang/IllegalStateException" "java/lang/IllegalStateException", .selects "java/lang/IllegalStateException" Bundle.tFill0 Bundle.tFill0, .selects "java/lang/IllegalStateException" Bundle.tFill Bundle.tFill, .lays "java/lang/IllegalStateException" Bundle.tN "cause" "Ljava/lang/Throwable;", .lays "java/lang/IllegalStateException" Bundle.tN "stackTrace" "[Ljava/lang/StackTraceElement;", .lays "java/lang/IllegalStateException" Bundle.tN "suppressedExceptions" "Ljava/util/List;", .lays "java/lang/IllegalStateException" Bundle.tN "detailMessage" "Ljava/lang/String;", .fieldLink Bundle.tN 198 Bundle.tN "backtrace" "Ljava/lang/Object;", .lays Bundle.tN Bundle.tN "backtrace" "Ljava/lang/Object;", .lays "java/lang/IllegalStateException" Bundle.tN "backtrace" "Ljava/lang/Object;"]
theorem exe0 : vx_atS (rn 8) 48 (en 0) exUp = exw0 := by decide +kernel
theorem exm0 : ∀ w ∈ exw0, w ∈ TBL := List.forall_mem_cons.mpr ⟨tb (tm1 _ (List.mem_of_getElem? (i := 12) rfl)) rfl, List.forall_mem_cons.mpr ⟨tb (tm2 _ (List.mem_of_getElem? (i := 26) rfl)) rfl, List.forall_mem_cons.mpr ⟨tb (tm2 _ (List.mem_of_getElem? (i := 35) rfl)) rfl, List.forall_mem_cons.mpr ⟨tb (tm2 _ (List.mem_of_getElem? (i := 39) rfl)) rfl, List.forall_mem_cons.mpr ⟨tb (tm2 _ (List.mem_of_getElem? (i := 42) rfl)) rfl, List.forall_mem_cons.mpr ⟨tb (tm2 _ (List.mem_of_getElem? (i := 44) rfl)) rfl, List.forall_mem_cons.mpr ⟨tb (tm2 _ (List.mem_of_getElem? (i := 27) rfl)) rfl, List.forall_mem_cons.mpr ⟨tb (tm2 _ (List.mem_of_getElem? (i := 28) rfl)) rfl, List.forall_mem_cons.mpr ⟨tb (tm1 _ (List.mem_of_getElem? (i := 25) rfl)) rfl, List.forall_mem_cons.mpr ⟨tb (tm1 _ (List.mem_of_getElem? (i := 26) rfl)) rfl, List.forall_mem_cons.mpr ⟨tb (tm2 _ (List.mem_of_getElem? (i := 29) rfl)) rfl, List.forall_mem_cons.mpr ⟨tb (tm2 _ (List.mem_of_getElem? (i := 34) rfl)) rfl, List.forall_mem_cons.mpr ⟨tb (tm2 _ (List.mem_of_getElem? (i := 40) rfl)) rfl, List.forall_mem_cons.mpr ⟨tb (tm2 _ (List.mem_of_getElem? (i := 60) rfl)) rfl, List.forall_mem_cons.mpr ⟨tb (tm2 _ (List.mem_of_getElem? (i := 16) rfl)) rfl, List.forall_mem_cons.mpr ⟨tb (tm2 _ (List.mem_of_getElem? (i := 61) rfl)) rfl, List.forall_mem_cons.mpr ⟨tb (tm2 _ (List.mem_of_getElem? (i := 18) rfl)) rfl, List.forall_mem_cons.mpr ⟨tb (tm2 _ (List.mem_of_getElem? (i := 62) rfl)) rfl, List.forall_mem_cons.mpr ⟨tb (tm2 _ (List.mem_of_getElem? (i := 20) rfl)) rfl, List.forall_mem_cons.mpr ⟨tb (tm2 _ (List.mem_of_getElem? (i := 30) rfl)) rfl, List.forall_mem_cons.mpr ⟨tb (tm2 _ (List.mem_of_getElem? (i := 32) rfl)) rfl, List.forall_mem_cons.mpr ⟨tb (tm2 _ (List.mem_of_getElem? (i := 22) rfl)) rfl, List.forall_mem_cons.mpr ⟨tb (tm2 _ (List.mem_of_getElem? (i := 56) rfl)) rfl, List.forall_mem_cons.mpr ⟨tb (tm2 _ (List.mem_of_getElem? (i := 57) rfl)) rfl, List.forall_mem_cons.mpr ⟨tb (tm2 _ (List.mem_of_getElem? (i := 59) rfl)) rfl, List.forall_mem_cons.mpr ⟨tb (tm2 _ (List.mem_of_getElem? (i := 22) rfl)) rfl, List.forall_mem_cons.mpr ⟨tb (tm2 _ (List.mem_of_getElem? (i := 103) rfl)) rfl, List.forall_mem_cons.mpr ⟨tb (tm2 _ (List.mem_of_getElem? (i := 104) rfl)) rfl, List.forall_mem_cons.mpr ⟨tb (tm2 _ (List.mem_of_getElem? (i := 105) rfl)) rfl, List.forall_mem_cons.mpr ⟨tb (tm2 _ (List.mem_of_getElem? (i := 50) rfl)) rfl, List.forall_mem_cons.mpr ⟨tb (tm2 _ (List.mem_of_getElem? (i := 8) rfl)) rfl, List.forall_mem_cons.mpr ⟨tb (tm2 _ (List.mem_of_getElem? (i := 50) rfl)) rfl, List.forall_mem_cons.mpr ⟨tb (tm2 _ (List.mem_of_getElem? (i := 51) rfl)) rfl, List.forall_mem_cons.mpr ⟨tb (tm2 _ (List.mem_of_getElem? (i := 52) rfl)) rfl, List.forall_mem_cons.mpr ⟨tb (tm2 _ (List.mem_of_getElem? (i := 53) rfl)) rfl, List.forall_mem_cons.mpr ⟨tb (tm2 _ (List.mem_of_getElem? (i := 10) rfl)) rfl, List.forall_mem_cons.mpr ⟨tb (tm2 _ (List.mem_of_getElem? (i := 53) rfl)) rfl, List.forall_mem_cons.mpr ⟨tb (tm2 _ (List.mem_of_getElem? (i := 54) rfl)) rfl, List.forall_mem_cons.mpr ⟨tb (tm2 _ (List.mem_of_getElem? (i := 55) rfl)) rfl, List.forall_mem_cons.mpr ⟨tb (tm2 _ (List.mem_of_getElem? (i := 56) rfl)) rfl, List.forall_mem_cons.mpr ⟨tb (tm2 _ (List.mem_of_getElem? (i := 12) rfl)) rfl, List.forall_mem_cons.mpr ⟨tb (tm2 _ (List.mem_of_getElem? (i := 102) rfl)) rfl, List.forall_mem_cons.mpr ⟨tb (tm2 _ (List.mem_of_getElem? (i := 93) rfl)) rfl, List.forall_mem_cons.mpr ⟨tb (tm2 _ (List.mem_of_getElem? (i := 94) rfl)) rfl, List.forall_mem_cons.mpr ⟨tb (tm2 _ (List.mem_of_getElem? (i := 95) rfl)) rfl, List.forall_mem_cons.mpr ⟨tb (tm2 _ (List.mem_of_getElem? (i := 37) rfl)) rfl, List.forall_mem_cons.mpr ⟨tb (tm2 _ (List.mem_of_getElem? (i := 96) rfl)) rfl, List.forall_mem_cons.mpr ⟨tb (tm2 _ (List.mem_of_getElem? (i := 97) rfl)) rfl, List.forall_mem_cons.mpr ⟨tb (tm2 _ (List.mem_of_getElem? (i := 98) rfl)) rfl, List.forall_mem_cons.mpr ⟨tb (tm2 _ (List.mem_of_getElem? (i := 99) rfl)) rfl, List.forall_mem_cons.mpr ⟨tb (tm2 _ (List.mem_of_getElem? (i := 25) rfl)) rfl, List.forall_mem_cons.mpr ⟨tb (tm2 _ (List.mem_of_getElem? (i := 24) rfl)) rfl, List.forall_mem_cons.mpr ⟨tb (tm2 _ (List.mem_of_getElem? (i := 100) rfl)) rfl, fun _ h => absurd h List.not_mem_nil⟩⟩⟩⟩⟩⟩⟩⟩⟩⟩⟩⟩⟩⟩⟩⟩⟩⟩⟩⟩⟩⟩⟩⟩⟩⟩⟩⟩⟩⟩⟩⟩⟩⟩⟩⟩⟩⟩⟩⟩⟩⟩⟩⟩⟩⟩⟩⟩⟩⟩⟩⟩⟩
theorem exg0 : ∀ w ∈ exAll 8 44 48 0, vx_ot w = true := by decide +kernel
theorem exa0 : ∀ w ∈ exAll 8 44 48 0, w ∈ TBL := List.forall_mem_cons.mpr ⟨tb (tm2 _ (List.mem_of_getElem? (i := 92) rfl)) rfl, List.forall_mem_cons.mpr ⟨tb (tm1 _ (List.mem_of_getElem? (i := 16) rfl)) rfl, by rw [exe0]; exact exm0⟩⟩
def exw1 : List Cond := [.initialized Bundle.tN, .superclass Bundle.tN "java/lang/Object", .instanceMethod Bundle.tFill, .codeSync Bundle.tFill LibCode.Throwable.Fill.code 1 (some (.object Bundle.tN)), .instanceMethod Bundle.tFill0, .native Bundle.tFill0, .instanceMethod Bundle.tInit0, .code Bundle.tInit0 LibCode.Throwable.Init0.code 1 none, .instanceMethod Bundle.oInit, .code Bundle.oInit ⟨#[0xb1]⟩ 1 none, .methodLink Bundle.tN 1 Bundle.oInit, .methodLink Bundle.tN 27 Bundle.tFill, .methodLink Bundle.tN 202 Bundle.tFill0, .fieldLink Bundle.tN 7 Bundle.tN "cause" "Ljava/lang/Throwable;", .lays Bundle.tN Bundle.tN "cause" "Ljava/lang/Throwable;", .fieldLink Bundle.tN 17 Bundle.tN "stackTrace" "[Ljava/lang/StackTraceElement;", .lays Bundle.tN Bundle.tN "stackTrace" "[Ljava/lang/StackTraceElement;", .fieldLink Bundle.tN 24 Bundle.tN "suppressedExceptions" "Ljava/util/List;", .lays Bundle.tN Bundle.tN "suppressedExceptions" "Ljava/util/List;", .fieldLink Bundle.tN 13 Bundle.tN "UNASSIGNED_STACK" "[Ljava/lang/StackTraceElement;", .fieldLink Bundle.tN 20 Bundle.tN "SUPPRESSED_SENTINEL" "Ljava/util/List;", .lays Bundle.tN Bundle.tN "detailMessage" "Ljava/lang/String;", .instanceMethod (Bundle.initS Bundle.tN), .code (Bundle.initS Bundle.tN) LibCode.Throwable.InitS.code 2 none, .fieldLink Bundle.tN 31 Bundle.tN "detailMessage" "Ljava/lang/String;", .lays Bundle.tN Bundle.tN "detailMessage" "Ljava/lang/String;", .instanceMethod (Bundle.initS "java/lang/IndexOutOfBoundsException"), .code (Bundle.initS "java/lang/IndexOutOfBoundsException") Bundle.six 2 none, .methodLink "java/lang/IndexOutOfBoundsException" 7 (Bundle.initS "java/lang/RuntimeException"), .instanceMethod (Bundle.initS "java/lang/RuntimeException"), .declares (Bundle.initS "java/lang/RuntimeException"), .instanceMethod (Bundle.initS "java/lang/RuntimeException"), .code (Bundle.initS "java/lang/RuntimeException") Bundle.six 2 none, .methodLink "java/lang/RuntimeException" 7 (Bundle.initS "java/lang/Exception"), .instanceMethod (Bundle.initS "java/lang/Exception"), .declares (Bundle.initS "java/lang/Exception"), .instanceMethod (Bundle.initS "java/lang/Exception"), .code (Bundle.initS "java/lang/Exception") Bundle.six 2 none, .methodLink "java/lang/Exception" 7 (Bundle.initS "java/lang/Throwable"), .instanceMethod (Bundle.initS "java/lang/Throwable"), .declares (Bundle.initS "java/lang/Throwable"), .methodLink (rn 8) 226 (Bundle.initS "java/lang/IndexOutOfBoundsException"), .instantiable "java/lang/IndexOutOfBoundsException" 6, .castable "java/lang/IndexOutOfBoundsException" "java/lang/IndexOutOfBoundsException", .selects "java/lang/IndexOutOfBoundsException" Bundle.tFill0 Bundle.tFill0, .selects "java/lang/IndexOutOfBoundsException" Bundle.tFill Bundle.tFill, .lays "java/lang/IndexOutOfBoundsException" Bundle.tN "cause" "Ljava/lang/Throwable;", .lays "java/lang/IndexOutOfBoundsException" Bundle.tN "stackTrace" "[Ljava/lang/StackTraceElement;", .lays "java/lang/IndexOutOfBoundsException" Bundle.tN "suppressedExceptions" "Ljava/util/List;", .lays "java/lang/IndexOutOfBoundsException" Bundle.tN "detailMessage" "Ljava/lang/String;", .fieldLink Bundle.tN 198 Bundle.tN "backtrace" "Ljava/lang/Object;", .lays Bundle.tN Bundle.tN "backtrace" "Ljava/lang/Object;", .lays "java/lang/IndexOutOfBoundsException" Bundle.tN "backtrace" "Ljava/lang/Object;"]
theorem exe1 : vx_atS (rn 8) 226 (en 2) exUp = exw1 := by decide +kernel
theorem exm1 : ∀ w ∈ exw1, w ∈ TBL := List.forall_mem_cons.mpr ⟨tb (tm1 _ (List.mem_of_getElem? (i := 12) rfl)) rfl, List.forall_mem_cons.mpr ⟨tb (tm2 _ (List.mem_of_getElem? (i := 26) rfl)) rfl, List.forall_mem_cons.mpr ⟨tb (tm2 _ (List.mem_of_getElem? (i := 35) rfl)) rfl, List.forall_mem_cons.mpr ⟨tb (tm2 _ (List.mem_of_getElem? (i := 39) rfl)) rfl, List.forall_mem_cons.mpr ⟨tb (tm2 _ (List.mem_of_getElem? (i := 42) rfl)) rfl, List.forall_mem_cons.mpr ⟨tb (tm2 _ (List.mem_of_getElem? (i := 44) rfl)) rfl, List.forall_mem_cons.mpr ⟨tb (tm2 _ (List.mem_of_getElem? (i := 27) rfl)) rfl, List.forall_mem_cons.mpr ⟨tb (tm2 _ (List.mem_of_getElem? (i := 28) rfl)) rfl, List.forall_mem_cons.mpr ⟨tb (tm1 _ (List.mem_of_getElem? (i := 25) rfl)) rfl, List.forall_mem_cons.mpr ⟨tb (tm1 _ (List.mem_of_getElem? (i := 26) rfl)) rfl, List.forall_mem_cons.mpr ⟨tb (tm2 _ (List.mem_of_getElem? (i := 29) rfl)) rfl, List.forall_mem_cons.mpr ⟨tb (tm2 _ (List.mem_of_getElem? (i := 34) rfl)) rfl, List.forall_mem_cons.mpr ⟨tb (tm2 _ (List.mem_of_getElem? (i := 40) rfl)) rfl, List.forall_mem_cons.mpr ⟨tb (tm2 _ (List.mem_of_getElem? (i := 60) rfl)) rfl, List.forall_mem_cons.mpr ⟨tb (tm2 _ (List.mem_of_getElem? (i := 16) rfl)) rfl, List.forall_mem_cons.mpr ⟨tb (tm2 _ (List.mem_of_getElem? (i := 61) rfl)) rfl, List.forall_mem_cons.mpr ⟨tb (tm2 _ (List.mem_of_getElem? (i := 18) rfl)) rfl, List.forall_mem_cons.mpr ⟨tb (tm2 _ (List.mem_of_getElem? (i := 62) rfl)) rfl, List.forall_mem_cons.mpr ⟨tb (tm2 _ (List.mem_of_getElem? (i := 20) rfl)) rfl, List.forall_mem_cons.mpr ⟨tb (tm2 _ (List.mem_of_getElem? (i := 30) rfl)) rfl, List.forall_mem_cons.mpr ⟨tb (tm2 _ (List.mem_of_getElem? (i := 32) rfl)) rfl, List.forall_mem_cons.mpr ⟨tb (tm2 _ (List.mem_of_getElem? (i := 22) rfl)) rfl, List.forall_mem_cons.mpr ⟨tb (tm2 _ (List.mem_of_getElem? (i := 56) rfl)) rfl, List.forall_mem_cons.mpr ⟨tb (tm2 _ (List.mem_of_getElem? (i := 57) rfl)) rfl, List.forall_mem_cons.mpr ⟨tb (tm2 _ (List.mem_of_getElem? (i := 59) rfl)) rfl, List.forall_mem_cons.mpr ⟨tb (tm2 _ (List.mem_of_getElem? (i := 22) rfl)) rfl, List.forall_mem_cons.mpr ⟨tb (tm2 _ (List.mem_of_getElem? (i := 140) rfl)) rfl, List.forall_mem_cons.mpr ⟨tb (tm2 _ (List.mem_of_getElem? (i := 141) rfl)) rfl, List.forall_mem_cons.mpr ⟨tb (tm2 _ (List.mem_of_getElem? (i := 142) rfl)) rfl, List.forall_mem_cons.mpr ⟨tb (tm2 _ (List.mem_of_getElem? (i := 50) rfl)) rfl, List.forall_mem_cons.mpr ⟨tb (tm2 _ (List.mem_of_getElem? (i := 8) rfl)) rfl, List.forall_mem_cons.mpr ⟨tb (tm2 _ (List.mem_of_getElem? (i := 50) rfl)) rfl, List.forall_mem_cons.mpr ⟨tb (tm2 _ (List.mem_of_getElem? (i := 51) rfl)) rfl, List.forall_mem_cons.mpr ⟨tb (tm2 _ (List.mem_of_getElem? (i := 52) rfl)) rfl, List.forall_mem_cons.mpr ⟨tb (tm2 _ (List.mem_of_getElem? (i := 53) rfl)) rfl, List.forall_mem_cons.mpr ⟨tb (tm2 _ (List.mem_of_getElem? (i := 10) rfl)) rfl, List.forall_mem_cons.mpr ⟨tb (tm2 _ (List.mem_of_getElem? (i := 53) rfl)) rfl, List.forall_mem_cons.mpr ⟨tb (tm2 _ (List.mem_of_getElem? (i := 54) rfl)) rfl, List.forall_mem_cons.mpr ⟨tb (tm2 _ (List.mem_of_getElem? (i := 55) rfl)) rfl, List.forall_mem_cons.mpr ⟨tb (tm2 _ (List.mem_of_getElem? (i := 56) rfl)) rfl, List.forall_mem_cons.mpr ⟨tb (tm2 _ (List.mem_of_getElem? (i := 12) rfl)) rfl, List.forall_mem_cons.mpr ⟨tb (tm2 _ (List.mem_of_getElem? (i := 139) rfl)) rfl, List.forall_mem_cons.mpr ⟨tb (tm2 _ (List.mem_of_getElem? (i := 130) rfl)) rfl, List.forall_mem_cons.mpr ⟨tb (tm2 _ (List.mem_of_getElem? (i := 131) rfl)) rfl, List.forall_mem_cons.mpr ⟨tb (tm2 _ (List.mem_of_getElem? (i := 132) rfl)) rfl, List.forall_mem_cons.mpr ⟨tb (tm2 _ (List.mem_of_getElem? (i := 38) rfl)) rfl, List.forall_mem_cons.mpr ⟨tb (tm2 _ (List.mem_of_getElem? (i := 133) rfl)) rfl, List.forall_mem_cons.mpr ⟨tb (tm2 _ (List.mem_of_getElem? (i := 134) rfl)) rfl, List.forall_mem_cons.mpr ⟨tb (tm2 _ (List.mem_of_getElem? (i := 135) rfl)) rfl, List.forall_mem_cons.mpr ⟨tb (tm2 _ (List.mem_of_getElem? (i := 136) rfl)) rfl, List.forall_mem_cons.mpr ⟨tb (tm2 _ (List.mem_of_getElem? (i := 25) rfl)) rfl, List.forall_mem_cons.mpr ⟨tb (tm2 _ (List.mem_of_getElem? (i := 24) rfl)) rfl, List.forall_mem_cons.mpr ⟨tb (tm2 _ (List.mem_of_getElem? (i := 137) rfl)) rfl, fun _ h => absurd h List.not_mem_nil⟩⟩⟩⟩⟩⟩⟩⟩⟩⟩⟩⟩⟩⟩⟩⟩⟩⟩⟩⟩⟩⟩⟩⟩⟩⟩⟩⟩⟩⟩⟩⟩⟩⟩⟩⟩⟩⟩⟩⟩⟩⟩⟩⟩⟩⟩⟩⟩⟩⟩⟩⟩⟩
theorem exg1 : ∀ w ∈ exAll 8 222 226 2, vx_ot w = true := by decide +kernel
theorem exa1 : ∀ w ∈ exAll 8 222 226 2, w ∈ TBL := List.forall_mem_cons.mpr ⟨tb (tm2 _ (List.mem_of_getElem? (i := 129) rfl)) rfl, List.forall_mem_cons.mpr ⟨tb (tm1 _ (List.mem_of_getElem? (i := 17) rfl)) rfl, by rw [exe1]; exact exm1⟩⟩
def exw2 : List Cond := [.initialized Bundle.tN, .superclass Bundle.tN "java/lang/Object", .instanceMethod Bundle.tFill, .codeSync Bundle.tFill LibCode.Throwable.Fill.code 1 (some (.object Bundle.tN)), .instanceMethod Bundle.tFill0, .native Bundle.tFill0, .instanceMethod Bundle.tInit0, .code Bundle.tInit0 LibCode.Throwable.Init0.code 1 none, .instanceMethod Bundle.oInit, .code Bundle.oInit ⟨#[0xb1]⟩ 1 none, .methodLink Bundle.tN 1 Bundle.oInit, .methodLink Bundle.tN 27 Bundle.tFill, .methodLink Bundle.tN 202 Bundle.tFill0, .fieldLink Bundle.tN 7 Bundle.tN "cause" "Ljava/lang/Throwable;", .lays Bundle.tN Bundle.tN "cause" "Ljava/lang/Throwable;", .fieldLink Bundle.tN 17 Bundle.tN "stackTrace" "[Ljava/lang/StackTraceElement;", .lays Bundle.tN Bundle.tN "stackTrace" "[Ljava/lang/StackTraceElement;", .fieldLink Bundle.tN 24 Bundle.tN "suppressedExceptions" "Ljava/util/List;", .lays Bundle.tN Bundle.tN "suppressedExceptions" "Ljava/util/List;", .fieldLink Bundle.tN 13 Bundle.tN "UNASSIGNED_STACK" "[Ljava/lang/StackTraceElement;", .fieldLink Bundle.tN 20 Bundle.tN "SUPPRESSED_SENTINEL" "Ljava/util/List;", .lays Bundle.tN Bundle.tN "detailMessage" "Ljava/lang/String;", .instanceMethod (Bundle.initS Bundle.tN), .code (Bundle.initS Bundle.tN) LibCode.Throwable.InitS.code 2 none, .fieldLink Bundle.tN 31 Bundle.tN "detailMessage" "Ljava/lang/String;", .lays Bundle.tN Bundle.tN "detailMessage" "Ljava/lang/String;", .instanceMethod (Bundle.initS "java/lang/IllegalArgumentException"), .code (Bundle.initS "java/lang/IllegalArgumentException") Bundle.six 2 none, .methodLink "java/lang/IllegalArgumentException" 7 (Bundle.initS "java/lang/RuntimeException"), .instanceMethod (Bundle.initS "java/lang/RuntimeException"), .declares (Bundle.initS "java/lang/RuntimeException"), .instanceMethod (Bundle.initS "java/lang/RuntimeException"), .code (Bundle.initS "java/lang/RuntimeException") Bundle.six 2 none, .methodLink "java/lang/RuntimeException" 7 (Bundle.initS "java/lang/Exception"), .instanceMethod (Bundle.initS "java/lang/Exception"), .declares (Bundle.initS "java/lang/Exception"), .instanceMethod (Bundle.initS "java/lang/Exception"), .code (Bundle.initS "java/lang/Exception") Bundle.six 2 none, .methodLink "java/lang/Exception" 7 (Bundle.initS "java/lang/Throwable"), .instanceMethod (Bundle.initS "java/lang/Throwable"), .declares (Bundle.initS "java/lang/Throwable"), .methodLink (rn 8) 236 (Bundle.initS "java/lang/IllegalArgumentException"), .instantiable "java/lang/IllegalArgumentException" 6, .castable "java/lang/IllegalArgumentException" "java/lang/IllegalArgumentException", .selects "java/lang/IllegalArgumentException" Bundle.tFill0 Bundle.tFill0, .selects "java/lang/IllegalArgumentException" Bundle.tFill Bundle.tFill, .lays "java/lang/IllegalArgumentException" Bundle.tN "cause" "Ljava/lang/Throwable;", .lays "java/lang/IllegalArgumentException" Bundle.tN "stackTrace" "[Ljava/lang/StackTraceElement;", .lays "java/lang/IllegalArgumentException" Bundle.tN "suppressedExceptions" "Ljava/util/List;", .lays "java/lang/IllegalArgumentException" Bundle.tN "detailMessage" "Ljava/lang/String;", .fieldLink Bundle.tN 198 Bundle.tN "backtrace" "Ljava/lang/Object;", .lays Bundle.tN Bundle.tN "backtrace" "Ljava/lang/Object;", .lays "java/lang/IllegalArgumentException" Bundle.tN "backtrace" "Ljava/lang/Object;"]
theorem exe2 : vx_atS (rn 8) 236 (en 1) exUp = exw2 := by decide +kernel
theorem exm2 : ∀ w ∈ exw2, w ∈ TBL := List.forall_mem_cons.mpr ⟨tb (tm1 _ (List.mem_of_getElem? (i := 12) rfl)) rfl, List.forall_mem_cons.mpr ⟨tb (tm2 _ (List.mem_of_getElem? (i := 26) rfl)) rfl, List.forall_mem_cons.mpr ⟨tb (tm2 _ (List.mem_of_getElem? (i := 35) rfl)) rfl, List.forall_mem_cons.mpr ⟨tb (tm2 _ (List.mem_of_getElem? (i := 39) rfl)) rfl, List.forall_mem_cons.mpr ⟨tb (tm2 _ (List.mem_of_getElem? (i := 42) rfl)) rfl, List.forall_mem_cons.mpr ⟨tb (tm2 _ (List.mem_of_getElem? (i := 44) rfl)) rfl, List.forall_mem_cons.mpr ⟨tb (tm2 _ (List.mem_of_getElem? (i := 27) rfl)) rfl, List.forall_mem_cons.mpr ⟨tb (tm2 _ (List.mem_of_getElem? (i := 28) rfl)) rfl, List.forall_mem_cons.mpr ⟨tb (tm1 _ (List.mem_of_getElem? (i := 25) rfl)) rfl, List.forall_mem_cons.mpr ⟨tb (tm1 _ (List.mem_of_getElem? (i := 26) rfl)) rfl, List.forall_mem_cons.mpr ⟨tb (tm2 _ (List.mem_of_getElem? (i := 29) rfl)) rfl, List.forall_mem_cons.mpr ⟨tb (tm2 _ (List.mem_of_getElem? (i := 34) rfl)) rfl, List.forall_mem_cons.mpr ⟨tb (tm2 _ (List.mem_of_getElem? (i := 40) rfl)) rfl, List.forall_mem_cons.mpr ⟨tb (tm2 _ (List.mem_of_getElem? (i := 60) rfl)) rfl, List.forall_mem_cons.mpr ⟨tb (tm2 _ (List.mem_of_getElem? (i := 16) rfl)) rfl, List.forall_mem_cons.mpr ⟨tb (tm2 _ (List.mem_of_getElem? (i := 61) rfl)) rfl, List.forall_mem_cons.mpr ⟨tb (tm2 _ (List.mem_of_getElem? (i := 18) rfl)) rfl, List.forall_mem_cons.mpr ⟨tb (tm2 _ (List.mem_of_getElem? (i := 62) rfl)) rfl, List.forall_mem_cons.mpr ⟨tb (tm2 _ (List.mem_of_getElem? (i := 20) rfl)) rfl, List.forall_mem_cons.mpr ⟨tb (tm2 _ (List.mem_of_getElem? (i := 30) rfl)) rfl, List.forall_mem_cons.mpr ⟨tb (tm2 _ (List.mem_of_getElem? (i := 32) rfl)) rfl, List.forall_mem_cons.mpr ⟨tb (tm2 _ (List.mem_of_getElem? (i := 22) rfl)) rfl, List.forall_mem_cons.mpr ⟨tb (tm2 _ (List.mem_of_getElem? (i := 56) rfl)) rfl, List.forall_mem_cons.mpr ⟨tb (tm2 _ (List.mem_of_getElem? (i := 57) rfl)) rfl, List.forall_mem_cons.mpr ⟨tb (tm2 _ (List.mem_of_getElem? (i := 59) rfl)) rfl, List.forall_mem_cons.mpr ⟨tb (tm2 _ (List.mem_of_getElem? (i := 22) rfl)) rfl, List.forall_mem_cons.mpr ⟨tb (tm2 _ (List.mem_of_getElem? (i := 47) rfl)) rfl, List.forall_mem_cons.mpr ⟨tb (tm2 _ (List.mem_of_getElem? (i := 48) rfl)) rfl, List.forall_mem_cons.mpr ⟨tb (tm2 _ (List.mem_of_getElem? (i := 49) rfl)) rfl, List.forall_mem_cons.mpr ⟨tb (tm2 _ (List.mem_of_getElem? (i := 50) rfl)) rfl, List.forall_mem_cons.mpr ⟨tb (tm2 _ (List.mem_of_getElem? (i := 8) rfl)) rfl, List.forall_mem_cons.mpr ⟨tb (tm2 _ (List.mem_of_getElem? (i := 50) rfl)) rfl, List.forall_mem_cons.mpr ⟨tb (tm2 _ (List.mem_of_getElem? (i := 51) rfl)) rfl, List.forall_mem_cons.mpr ⟨tb (tm2 _ (List.mem_of_getElem? (i := 52) rfl)) rfl, List.forall_mem_cons.mpr ⟨tb (tm2 _ (List.mem_of_getElem? (i := 53) rfl)) rfl, List.forall_mem_cons.mpr ⟨tb (tm2 _ (List.mem_of_getElem? (i := 10) rfl)) rfl, List.forall_mem_cons.mpr ⟨tb (tm2 _ (List.mem_of_getElem? (i := 53) rfl)) rfl, List.forall_mem_cons.mpr ⟨tb (tm2 _ (List.mem_of_getElem? (i := 54) rfl)) rfl, List.forall_mem_cons.mpr ⟨tb (tm2 _ (List.mem_of_getElem? (i := 55) rfl)) rfl, List.forall_mem_cons.mpr ⟨tb (tm2 _ (List.mem_of_getElem? (i := 56) rfl)) rfl, List.forall_mem_cons.mpr ⟨tb (tm2 _ (List.mem_of_getElem? (i := 12) rfl)) rfl, List.forall_mem_cons.mpr ⟨tb (tm2 _ (List.mem_of_getElem? (i := 46) rfl)) rfl, List.forall_mem_cons.mpr ⟨tb (tm2 _ (List.mem_of_getElem? (i := 5) rfl)) rfl, List.forall_mem_cons.mpr ⟨tb (tm2 _ (List.mem_of_getElem? (i := 6) rfl)) rfl, List.forall_mem_cons.mpr ⟨tb (tm2 _ (List.mem_of_getElem? (i := 13) rfl)) rfl, List.forall_mem_cons.mpr ⟨tb (tm2 _ (List.mem_of_getElem? (i := 14) rfl)) rfl, List.forall_mem_cons.mpr ⟨tb (tm2 _ (List.mem_of_getElem? (i := 15) rfl)) rfl, List.forall_mem_cons.mpr ⟨tb (tm2 _ (List.mem_of_getElem? (i := 17) rfl)) rfl, List.forall_mem_cons.mpr ⟨tb (tm2 _ (List.mem_of_getElem? (i := 19) rfl)) rfl, List.forall_mem_cons.mpr ⟨tb (tm2 _ (List.mem_of_getElem? (i := 21) rfl)) rfl, List.forall_mem_cons.mpr ⟨tb (tm2 _ (List.mem_of_getElem? (i := 25) rfl)) rfl, List.forall_mem_cons.mpr ⟨tb (tm2 _ (List.mem_of_getElem? (i := 24) rfl)) rfl, List.forall_mem_cons.mpr ⟨tb (tm2 _ (List.mem_of_getElem? (i := 23) rfl)) rfl, fun _ h => absurd h List.not_mem_nil⟩⟩⟩⟩⟩⟩⟩⟩⟩⟩⟩⟩⟩⟩⟩⟩⟩⟩⟩⟩⟩⟩⟩⟩⟩⟩⟩⟩⟩⟩⟩⟩⟩⟩⟩⟩⟩⟩⟩⟩⟩⟩⟩⟩⟩⟩⟩⟩⟩⟩⟩⟩⟩
theorem exg2 : ∀ w ∈ exAll 8 232 236 1, vx_ot w = true := by decide +kernel
theorem exa2 : ∀ w ∈ exAll 8 232 236 1, w ∈ TBL := List.forall_mem_cons.mpr ⟨tb (tm2 _ (List.mem_of_getElem? (i := 4) rfl)) rfl, List.forall_mem_cons.mpr ⟨tb (tm1 _ (List.mem_of_getElem? (i := 15) rfl)) rfl, by rw [exe2]; exact exm2⟩⟩
set_option maxRecDepth 100000 in
theorem excT_ok : ∀ e ∈ excT, (∀ w ∈ exAll e.1 e.2.1 e.2.2.2.1 e.2.2.2.2.1, w ∈ TBL) ∧ (∀ w ∈ exAll e.1 e.2.1 e.2.2.2.1 e.2.2.2.2.1, vx_ot w = true) ∧ e.2.2.2.2.1 < 3 := List.forall_mem_cons.mpr ⟨⟨exa0, exg0, by decide⟩, List.forall_mem_cons.mpr ⟨⟨exa0, exg0, by decide⟩, List.forall_mem_cons.mpr ⟨⟨exa0, exg0, by decide⟩, List.forall_mem_cons.mpr ⟨⟨exa0, exg0, by decide⟩, List.forall_mem_cons.mpr ⟨⟨exa0, exg0, by decide⟩, List.forall_mem_cons.mpr ⟨⟨exa0, exg0, by decide⟩, List.forall_mem_cons.mpr ⟨⟨exa0, exg0, by decide⟩, List.forall_mem_cons.mpr ⟨⟨exa0, exg0, by decide⟩, List.forall_mem_cons.mpr ⟨⟨exa0, exg0, by decide⟩, List.forall_mem_cons.mpr ⟨⟨exa1, exg1, by decide⟩, List.forall_mem_cons.mpr ⟨⟨exa1, exg1, by decide⟩, List.forall_mem_cons.mpr ⟨⟨exa2, exg2, by decide⟩, List.forall_mem_cons.mpr ⟨⟨exa2, exg2, by decide⟩, List.forall_mem_cons.mpr ⟨⟨exa2, exg2, by decide⟩, fun _ h => absurd h List.not_mem_nil⟩⟩⟩⟩⟩⟩⟩⟩⟩⟩⟩⟩⟩⟩
theorem enF : ∀ i, i < 3 → Bundle.fit (en i) = true := by decide +kernel
theorem upF : ∀ n ∈ exUp, Bundle.fit n = true := by decide +kernel
theorem aci : Cond.arrayClass .int ∈ TBL := tb (tm1 _ (List.mem_of_getElem? (i := 40) rfl)) rfl
theorem acz : Cond.arrayClass .boolean ∈ TBL := tb (tm1 _ (List.mem_of_getElem? (i := 111) rfl)) rfl
theorem acl : Cond.arrayClass .long ∈ TBL := tb (tm5 _ (List.mem_of_getElem? (i := 141) rfl)) rfl
theorem cast0 : Cond.castable (en 0) (en 0) ∈ TBL := tb (tm2 _ (List.mem_of_getElem? (i := 94) rfl)) rfl
theorem cast1 : Cond.castable (en 1) (en 1) ∈ TBL := tb (tm2 _ (List.mem_of_getElem? (i := 6) rfl)) rfl
theorem cast2 : Cond.castable (en 2) (en 2) ∈ TBL := tb (tm2 _ (List.mem_of_getElem? (i := 131) rfl)) rfl
theorem inC0 : ∀ w ∈ u_ws RX0 TX0 8, w ∈ TBL := by
  show ∀ w ∈ [u_lay RX0 TX0 0, u_lay RX0 TX0 1, u_lay RX0 TX0 2, u_lay RX0 TX0 3, u_lay RX0 TX0 4, u_lay RX0 TX0 5, u_lay RX0 TX0 6, u_lay RX0 TX0 7], w ∈ TBL
  exact List.forall_mem_cons.mpr ⟨tb (tm1 _ (List.mem_of_getElem? (i := 94) rfl)) rfl, List.forall_mem_cons.mpr ⟨tb (tm1 _ (List.mem_of_getElem? (i := 96) rfl)) rfl, List.forall_mem_cons.mpr ⟨tb (tm1 _ (List.mem_of_getElem? (i := 98) rfl)) rfl, List.forall_mem_cons.mpr ⟨tb (tm1 _ (List.mem_of_getElem? (i := 100) rfl)) rfl, List.forall_mem_cons.mpr ⟨tb (tm1 _ (List.mem_of_getElem? (i := 102) rfl)) rfl, List.forall_mem_cons.mpr ⟨tb (tm1 _ (List.mem_of_getElem? (i := 104) rfl)) rfl, List.forall_mem_cons.mpr ⟨tb (tm1 _ (List.mem_of_getElem? (i := 106) rfl)) rfl, List.forall_mem_cons.mpr ⟨tb (tm1 _ (List.mem_of_getElem? (i := 108) rfl)) rfl, fun _ h => absurd h List.not_mem_nil⟩⟩⟩⟩⟩⟩⟩⟩
theorem inC1 : ∀ w ∈ u_ws RX1 TX1 4, w ∈ TBL := by
  show ∀ w ∈ [u_lay RX1 TX1 0, u_lay RX1 TX1 1, u_lay RX1 TX1 2, u_lay RX1 TX1 3], w ∈ TBL
  exact List.forall_mem_cons.mpr ⟨tb (tm1 _ (List.mem_of_getElem? (i := 54) rfl)) rfl, List.forall_mem_cons.mpr ⟨tb (tm1 _ (List.mem_of_getElem? (i := 56) rfl)) rfl, List.forall_mem_cons.mpr ⟨tb (tm1 _ (List.mem_of_getElem? (i := 58) rfl)) rfl, List.forall_mem_cons.mpr ⟨tb (tm1 _ (List.mem_of_getElem? (i := 60) rfl)) rfl, fun _ h => absurd h List.not_mem_nil⟩⟩⟩⟩
theorem inC2 : ∀ w ∈ u_ws RX2 TX2 2, w ∈ TBL := by
  show ∀ w ∈ [u_lay RX2 TX2 0, u_lay RX2 TX2 1], w ∈ TBL
  exact List.forall_mem_cons.mpr ⟨tb (tm1 _ (List.mem_of_getElem? (i := 74) rfl)) rfl, List.forall_mem_cons.mpr ⟨tb (tm1 _ (List.mem_of_getElem? (i := 76) rfl)) rfl, fun _ h => absurd h List.not_mem_nil⟩⟩
theorem inC3 : ∀ w ∈ u_ws RX3 TX3 6, w ∈ TBL := by
  show ∀ w ∈ [u_lay RX3 TX3 0, u_lay RX3 TX3 1, u_lay RX3 TX3 2, u_lay RX3 TX3 3, u_lay RX3 TX3 4, u_lay RX3 TX3 5], w ∈ TBL
  exact List.forall_mem_cons.mpr ⟨tb (tm1 _ (List.mem_of_getElem? (i := 212) rfl)) rfl, List.forall_mem_cons.mpr ⟨tb (tm1 _ (List.mem_of_getElem? (i := 214) rfl)) rfl, List.forall_mem_cons.mpr ⟨tb (tm1 _ (List.mem_of_getElem? (i := 216) rfl)) rfl, List.forall_mem_cons.mpr ⟨tb (tm1 _ (List.mem_of_getElem? (i := 218) rfl)) rfl, List.forall_mem_cons.mpr ⟨tb (tm1 _ (List.mem_of_getElem? (i := 220) rfl)) rfl, List.forall_mem_cons.mpr ⟨tb (tm1 _ (List.mem_of_getElem? (i := 222) rfl)) rfl, fun _ h => absurd h List.not_mem_nil⟩⟩⟩⟩⟩⟩
theorem inC4 : ∀ w ∈ u_ws RX4 TX4 6, w ∈ TBL := by
  show ∀ w ∈ [u_lay RX4 TX4 0, u_lay RX4 TX4 1, u_lay RX4 TX4 2, u_lay RX4 TX4 3, u_lay RX4 TX4 4, u_lay RX4 TX4 5], w ∈ TBL
  exact List.forall_mem_cons.mpr ⟨tb (tm1 _ (List.mem_of_getElem? (i := 183) rfl)) rfl, List.forall_mem_cons.mpr ⟨tb (tm1 _ (List.mem_of_getElem? (i := 185) rfl)) rfl, List.forall_mem_cons.mpr ⟨tb (tm1 _ (List.mem_of_getElem? (i := 187) rfl)) rfl, List.forall_mem_cons.mpr ⟨tb (tm1 _ (List.mem_of_getElem? (i := 189) rfl)) rfl, List.forall_mem_cons.mpr ⟨tb (tm1 _ (List.mem_of_getElem? (i := 191) rfl)) rfl, List.forall_mem_cons.mpr ⟨tb (tm1 _ (List.mem_of_getElem? (i := 193) rfl)) rfl, fun _ h => absurd h List.not_mem_nil⟩⟩⟩⟩⟩⟩
theorem inC5 : ∀ w ∈ u_ws RX5 TX5 2, w ∈ TBL := by
  show ∀ w ∈ [u_lay RX5 TX5 0, u_lay RX5 TX5 1], w ∈ TBL
  exact List.forall_mem_cons.mpr ⟨tb (tm1 _ (List.mem_of_getElem? (i := 35) rfl)) rfl, List.forall_mem_cons.mpr ⟨tb (tm1 _ (List.mem_of_getElem? (i := 37) rfl)) rfl, fun _ h => absurd h List.not_mem_nil⟩⟩
theorem inC6 : ∀ w ∈ u_ws RX6 TX6 10, w ∈ TBL := by
  show ∀ w ∈ [u_lay RX6 TX6 0, u_lay RX6 TX6 1, u_lay RX6 TX6 2, u_lay RX6 TX6 3, u_lay RX6 TX6 4, u_lay RX6 TX6 5, u_lay RX6 TX6 6, u_lay RX6 TX6 7, u_lay RX6 TX6 8, u_lay RX6 TX6 9], w ∈ TBL
  exact List.forall_mem_cons.mpr ⟨tb (tm1 _ (List.mem_of_getElem? (i := 129) rfl)) rfl, List.forall_mem_cons.mpr ⟨tb (tm1 _ (List.mem_of_getElem? (i := 131) rfl)) rfl, List.forall_mem_cons.mpr ⟨tb (tm1 _ (List.mem_of_getElem? (i := 133) rfl)) rfl, List.forall_mem_cons.mpr ⟨tb (tm1 _ (List.mem_of_getElem? (i := 135) rfl)) rfl, List.forall_mem_cons.mpr ⟨tb (tm1 _ (List.mem_of_getElem? (i := 137) rfl)) rfl, List.forall_mem_cons.mpr ⟨tb (tm1 _ (List.mem_of_getElem? (i := 139) rfl)) rfl, List.forall_mem_cons.mpr ⟨tb (tm1 _ (List.mem_of_getElem? (i := 141) rfl)) rfl, List.forall_mem_cons.mpr ⟨tb (tm1 _ (List.mem_of_getElem? (i := 143) rfl)) rfl, List.forall_mem_cons.mpr ⟨tb (tm1 _ (List.mem_of_getElem? (i := 145) rfl)) rfl, List.forall_mem_cons.mpr ⟨tb (tm1 _ (List.mem_of_getElem? (i := 147) rfl)) rfl, fun _ h => absurd h List.not_mem_nil⟩⟩⟩⟩⟩⟩⟩⟩⟩⟩
theorem inC7 : ∀ w ∈ u_ws RX7 TX7 4, w ∈ TBL := by
  show ∀ w ∈ [u_lay RX7 TX7 0, u_lay RX7 TX7 1, u_lay RX7 TX7 2, u_lay RX7 TX7 3], w ∈ TBL
  exact List.forall_mem_cons.mpr ⟨tb (tm1 _ (List.mem_of_getElem? (i := 160) rfl)) rfl, List.forall_mem_cons.mpr ⟨tb (tm1 _ (List.mem_of_getElem? (i := 162) rfl)) rfl, List.forall_mem_cons.mpr ⟨tb (tm1 _ (List.mem_of_getElem? (i := 164) rfl)) rfl, List.forall_mem_cons.mpr ⟨tb (tm1 _ (List.mem_of_getElem? (i := 166) rfl)) rfl, fun _ h => absurd h List.not_mem_nil⟩⟩⟩⟩
theorem inC8 : ∀ w ∈ u_ws RX8 TX8 2, w ∈ TBL := by
  show ∀ w ∈ [u_lay RX8 TX8 0, u_lay RX8 TX8 1], w ∈ TBL
  exact List.forall_mem_cons.mpr ⟨tb (tm1 _ (List.mem_of_getElem? (i := 227) rfl)) rfl, List.forall_mem_cons.mpr ⟨tb (tm1 _ (List.mem_of_getElem? (i := 229) rfl)) rfl, fun _ h => absurd h List.not_mem_nil⟩⟩
theorem inC9 : ∀ w ∈ u_ws RX9 TX9 24, w ∈ TBL := by
  show ∀ w ∈ [u_lay RX9 TX9 0, u_lay RX9 TX9 1, u_lay RX9 TX9 2, u_lay RX9 TX9 3, u_lay RX9 TX9 4, u_lay RX9 TX9 5, u_lay RX9 TX9 6, u_lay RX9 TX9 7, u_lay RX9 TX9 8, u_lay RX9 TX9 9, u_lay RX9 TX9 10, u_lay RX9 TX9 11, u_lay RX9 TX9 12, u_lay RX9 TX9 13, u_lay RX9 TX9 14, u_lay RX9 TX9 15, u_lay RX9 TX9 16, u_lay RX9 TX9 17, u_lay RX9 TX9 18, u_lay RX9 TX9 19, u_lay RX9 TX9 20, u_lay RX9 TX9 21, u_lay RX9 TX9 22, u_lay RX9 TX9 23], w ∈ TBL
  exact List.forall_mem_cons.mpr ⟨tb (tm4 _ (List.mem_of_getElem? (i := 137) rfl)) rfl, List.forall_mem_cons.mpr ⟨tb (tm4 _ (List.mem_of_getElem? (i := 139) rfl)) rfl, List.forall_mem_cons.mpr ⟨tb (tm4 _ (List.mem_of_getElem? (i := 141) rfl)) rfl, List.forall_mem_cons.mpr ⟨tb (tm4 _ (List.mem_of_getElem? (i := 143) rfl)) rfl, List.forall_mem_cons.mpr ⟨tb (tm4 _ (List.mem_of_getElem? (i := 145) rfl)) rfl, List.forall_mem_cons.mpr ⟨tb (tm4 _ (List.mem_of_getElem? (i := 147) rfl)) rfl, List.forall_mem_cons.mpr ⟨tb (tm4 _ (List.mem_of_getElem? (i := 149) rfl)) rfl, List.forall_mem_cons.mpr ⟨tb (tm4 _ (List.mem_of_getElem? (i := 151) rfl)) rfl, List.forall_mem_cons.mpr ⟨tb (tm4 _ (List.mem_of_getElem? (i := 153) rfl)) rfl, List.forall_mem_cons.mpr ⟨tb (tm4 _ (List.mem_of_getElem? (i := 155) rfl)) rfl, List.forall_mem_cons.mpr ⟨tb (tm4 _ (List.mem_of_getElem? (i := 157) rfl)) rfl, List.forall_mem_cons.mpr ⟨tb (tm4 _ (List.mem_of_getElem? (i := 159) rfl)) rfl, List.forall_mem_cons.mpr ⟨tb (tm4 _ (List.mem_of_getElem? (i := 161) rfl)) rfl, List.forall_mem_cons.mpr ⟨tb (tm4 _ (List.mem_of_getElem? (i := 163) rfl)) rfl, List.forall_mem_cons.mpr ⟨tb (tm4 _ (List.mem_of_getElem? (i := 165) rfl)) rfl, List.forall_mem_cons.mpr ⟨tb (tm4 _ (List.mem_of_getElem? (i := 167) rfl)) rfl, List.forall_mem_cons.mpr ⟨tb (tm4 _ (List.mem_of_getElem? (i := 169) rfl)) rfl, List.forall_mem_cons.mpr ⟨tb (tm4 _ (List.mem_of_getElem? (i := 171) rfl)) rfl, List.forall_mem_cons.mpr ⟨tb (tm4 _ (List.mem_of_getElem? (i := 173) rfl)) rfl, List.forall_mem_cons.mpr ⟨tb (tm4 _ (List.mem_of_getElem? (i := 175) rfl)) rfl, List.forall_mem_cons.mpr ⟨tb (tm4 _ (List.mem_of_getElem? (i := 177) rfl)) rfl, List.forall_mem_cons.mpr ⟨tb (tm4 _ (List.mem_of_getElem? (i := 179) rfl)) rfl, List.forall_mem_cons.mpr ⟨tb (tm4 _ (List.mem_of_getElem? (i := 181) rfl)) rfl, List.forall_mem_cons.mpr ⟨tb (tm4 _ (List.mem_of_getElem? (i := 183) rfl)) rfl, fun _ h => absurd h List.not_mem_nil⟩⟩⟩⟩⟩⟩⟩⟩⟩⟩⟩⟩⟩⟩⟩⟩⟩⟩⟩⟩⟩⟩⟩⟩
end
section
/-! THE MACHINE OF PICTURES: what a method computes over an abstract heap, a list of cells; a reference is a place in that list -/
abbrev rE : Type := (Nat × vp_A) ⊕ (Nat × List Value)
abbrev rH : Type := List rE
abbrev rL : Type := List (Option Value)
/-- returned, with what; or thrown, the class's number -/
abbrev rO : Type := Option Value ⊕ Nat
abbrev rR : Type := rO × rH × Nat × Nat
/-- a frame: pc, locals, stack, heap, cells and slots made so far -/
abbrev rF : Type := Nat × rL × List Value × rH × Nat × Nat
abbrev rS : Type := Option (rF ⊕ ((Nat × List Value × List Value) ⊕ rR))
abbrev rX : Type := Nat × (Nat → Int32)
def nx (pc : Nat) (ls : rL) (st : List Value) (h : rH) (k s : Nat) : rS := some (.inl (pc, ls, st, h, k, s))
def lk (h : rH) (p : Nat) : Option rE := if p < 99999 then h[p]? else none
def pts : List Int32 := [25, 18, 15, 12, 10, 8, 6, 4, 2, 1]
def ptf (j : Nat) : Int32 := pts.getD j 0
/-- the arrays that nobody writes: the script, the points -/
def xar (X : rX) (p : Nat) : Option rX := if p = 100000 then some X else if p = 100001 then some (10, ptf) else none
def vcat (st : List Value) : Nat := (st.map fun v => v.category).sum
def tgt (pc : Nat) (off : Int) : Option Nat := if 0 ≤ (pc : Int) + off then some ((pc : Int) + off).toNat else none
def jmp (t : Option Nat) (a b : Nat) (q : Bool) (ls : rL) (st : List Value) (h : rH) (k s : Nat) : rS := match t with
  | some t => nx (if q = true then t else b) ls st h k s
  | none => none
def ldI (ls : rL) (i pc : Nat) (st : List Value) (h : rH) (k s : Nat) : rS := match ls[i]? with
  | some (some (.int x)) => nx pc ls (.int x :: st) h k s
  | _ => none
def ldA (ls : rL) (i pc : Nat) (st : List Value) (h : rH) (k s : Nat) : rS := match ls[i]? with
  | some (some (.ref x)) => nx pc ls (.ref x :: st) h k s
  | _ => none
def stI (ls : rL) (i pc : Nat) (st : List Value) (h : rH) (k s : Nat) : rS := match st with
  | .int x :: r => if i < ls.length then nx pc (ls.set i (some (.int x))) r h k s else none
  | _ => none
def stA (ls : rL) (i pc : Nat) (st : List Value) (h : rH) (k s : Nat) : rS := match st with
  | .ref x :: r => if i < ls.length then nx pc (ls.set i (some (.ref x))) r h k s else none
  | _ => none
def bin (f : Int32 → Int32 → Int32) (pc : Nat) (ls : rL) (st : List Value) (h : rH) (k s : Nat) : rS := match st with
  | .int y :: .int x :: r => nx pc ls (.int (f x y) :: r) h k s
  | _ => none
def icmp (f : Int32 → Int32 → Bool) (t : Option Nat) (pc : Nat) (ls : rL) (st : List Value) (h : rH) (k s : Nat) : rS := match st with
  | .int y :: .int x :: r => jmp t pc (pc + 3) (f x y) ls r h k s
  | _ => none
def icm0 (f : Int32 → Bool) (t : Option Nat) (pc : Nat) (ls : rL) (st : List Value) (h : rH) (k s : Nat) : rS := match st with
  | .int x :: r => jmp t pc (pc + 3) (f x) ls r h k s
  | _ => none
def aget (X : rX) (ty pc : Nat) (ls : rL) (st : List Value) (h : rH) (k s : Nat) : rS := match st with
  | .int i :: .ref p :: r => match lk h p with
    | some (.inl (t, n, .inl f)) => if t = ty then (if i < 0 ∨ n ≤ i.toNatClampNeg then none else nx (pc + 1) ls (.int (f i.toNatClampNeg) :: r) h k s) else none
    | some _ => none
    | none => match xar X p with
      | some (n, f) => if ty = 0 then (if i < 0 ∨ n ≤ i.toNatClampNeg then none else nx (pc + 1) ls (.int (f i.toNatClampNeg) :: r) h k s) else none
      | none => none
  | _ => none
def agetL (pc : Nat) (ls : rL) (st : List Value) (h : rH) (k s : Nat) : rS := match st with
  | .int i :: .ref p :: r => match lk h p with
    | some (.inl (t, n, .inr (.inl f))) => if t = 2 then (if i < 0 ∨ n ≤ i.toNatClampNeg then none else nx (pc + 1) ls (.long (f i.toNatClampNeg) :: r) h k s) else none
    | _ => none
  | _ => none
def aput (pc : Nat) (ls : rL) (st : List Value) (h : rH) (k s : Nat) : rS := match st with
  | .int x :: .int i :: .ref p :: r => match lk h p with
    | some (.inl (t, n, .inl f)) => if t = 0 then (if i < 0 ∨ n ≤ i.toNatClampNeg then none else nx (pc + 1) ls r (h.set p (.inl (0, n, .inl (upd f i.toNatClampNeg x)))) k s) else none
    | _ => none
  | _ => none
def aputZ (pc : Nat) (ls : rL) (st : List Value) (h : rH) (k s : Nat) : rS := match st with
  | .int x :: .int i :: .ref p :: r => match lk h p with
    | some (.inl (t, n, .inl f)) => if t = 1 then (if i < 0 ∨ n ≤ i.toNatClampNeg then none else nx (pc + 1) ls r (h.set p (.inl (1, n, .inl (upd f i.toNatClampNeg (vp_nar .boolean x))))) k s) else none
    | _ => none
  | _ => none
def aputL (pc : Nat) (ls : rL) (st : List Value) (h : rH) (k s : Nat) : rS := match st with
  | .long x :: .int i :: .ref p :: r => match lk h p with
    | some (.inl (t, n, .inr (.inl f))) => if t = 2 then (if i < 0 ∨ n ≤ i.toNatClampNeg then none else nx (pc + 1) ls r (h.set p (.inl (2, n, .inr (.inl (vp_updL f i.toNatClampNeg x))))) k s) else none
    | _ => none
  | _ => none
def alen (X : rX) (pc : Nat) (ls : rL) (st : List Value) (h : rH) (k s : Nat) : rS := match st with
  | .ref p :: r => match lk h p with
    | some (.inl (t, x)) => if t < 3 then nx (pc + 1) ls (.int (Int32.ofNat x.1) :: r) h k s else none
    | some _ => none
    | none => match xar X p with
      | some (n, _) => nx (pc + 1) ls (.int (Int32.ofNat n) :: r) h k s
      | none => none
  | _ => none
def tyC (ci : Nat) : Nat → FieldType := match ci with
  | 0 => tyX0
  | 1 => tyX1
  | 2 => tyX2
  | 3 => tyX3
  | 4 => tyX4
  | 5 => tyX5
  | 6 => tyX6
  | 7 => tyX7
  | 8 => tyX8
  | _ => tyX9
def dfl (ci : Nat) : List Value := (List.range (clC ci).2.2).map fun k => defaultValue (tyC ci k)
def fget (M ix pc : Nat) (ls : rL) (st : List Value) (h : rH) (k s : Nat) : rS := match st with
  | .ref p :: r => match asc fldT (ow M) ix with
    | some (ci, kf, _) => match lk h p with
      | some (.inr (c2, fs)) => if c2 = ci then (match fs[kf]? with
        | some v => nx (pc + 3) ls (v :: r) h k s
        | none => none) else none
      | _ => none
    | none => none
  | _ => none
def fput (M ix pc : Nat) (ls : rL) (st : List Value) (h : rH) (k s : Nat) : rS := match st with
  | v :: .ref p :: r => match asc fldT (ow M) ix with
    | some (ci, kf, ne) => match lk h p with
      | some (.inr (c2, fs)) =>
        if c2 = ci ∧ kf < fs.length ∧ fits (tyC ci kf) v = true ∧ narrow (tyC ci kf) v = v ∧ ne = false ∧ (((clC ci).2.1 kf).2.2.2 = true → (my M).name = "<init>" ∧ ((clC ci).2.1 kf).1 = rn (ow M)) then nx (pc + 3) ls r (h.set p (.inr (ci, fs.set kf v))) k s else none
      | _ => none
    | none => none
  | _ => none
def sget (M ix pc : Nat) (ls : rL) (st : List Value) (h : rH) (k s : Nat) : rS := match asc staT (ow M) ix with
  | some e => nx (pc + 3) ls (.ref e :: st) h k s
  | none => none
/-- the row of excT of a 'throw new E("text")' at pc -/
def exRow (t : List (Nat × Nat × Nat × Nat × Nat × String)) (M ix pc : Nat) : Option Nat := match t with
  | [] => none
  | q :: t => if q.1 = ow M ∧ q.2.1 = ix ∧ decode (mb M) (pc + 4) = .ok (.ldc q.2.2.1, 2) ∧ decode (mb M) (pc + 6) = .ok (.invokespecial q.2.2.2.1, 3) then some q.2.2.2.2.1 else exRow t M ix pc
def newo (M ix pc : Nat) (ls : rL) (st : List Value) (h : rH) (k s : Nat) : rS := match asc clsT (ow M) ix with
  | some ci => if h.length < 99999 then nx (pc + 3) ls (.ref h.length :: st) (h ++ [.inr (ci, dfl ci)]) (k + 1) (s + (clC ci).2.2) else none
  | none => match exRow excT M ix pc with
    | some e => if decode (mb M) (pc + 3) = .ok (.dup, 1) ∧ decode (mb M) (pc + 9) = .ok (.athrow, 1) ∧ mh M = [] ∧ 6 ≤ fr M ∧ vcat st + 82 ≤ lo M then some (.inr (.inr (.inr e, h, k + 1, s + 6))) else none
    | none => none
def newa (t : ArrayType) (pc : Nat) (ls : rL) (st : List Value) (h : rH) (k s : Nat) : rS := match st with
  | .int n :: r => if n < 0 ∨ 1000000 < n.toNatClampNeg ∨ 99999 ≤ h.length then none else (match t with
    | .int => nx (pc + 2) ls (.ref h.length :: r) (h ++ [.inl (0, n.toNatClampNeg, .inl fun _ => 0)]) (k + 1) (s + n.toNatClampNeg)
    | .boolean => nx (pc + 2) ls (.ref h.length :: r) (h ++ [.inl (1, n.toNatClampNeg, .inl fun _ => 0)]) (k + 1) (s + n.toNatClampNeg)
    | .long => nx (pc + 2) ls (.ref h.length :: r) (h ++ [.inl (2, n.toNatClampNeg, .inr (.inl fun _ => 0))]) (k + 1) (s + n.toNatClampNeg)
    | _ => none)
  | _ => none
def okA (y : Nat) (as : List Value) : Bool := as.all (fun v => v.category == 1) && as.length ≤ ml y
def rooms (M y : Nat) (rest : List Value) : Bool := fr y + 1 ≤ fr M && 8 + (ml y + 11) + lo y ≤ lo M && vcat rest ≤ 8
def invS (M ix : Nat) (st : List Value) : rS := match asc mthT (ow M) ix with
  | some (y, ne) => if mst y = true ∧ ne = false ∧ mna y ≤ st.length ∧ okA y (st.take (mna y)).reverse = true ∧ rooms M y (st.drop (mna y)) = true then some (.inr (.inl (y, (st.take (mna y)).reverse, st.drop (mna y)))) else none
  | none => none
def invV (M ix : Nat) (st : List Value) (h : rH) : rS := match asc mthT (ow M) ix with
  | some (y, ne) => match st.drop (mna y) with
    | .ref p :: r => match lk h p with
      | some (.inr (c2, _)) => if mst y = false ∧ ne = false ∧ (my y).name ≠ "<init>" ∧ c2 = ow y ∧ c2 < 10 ∧ mh y = [] ∧ okA y (.ref p :: (st.take (mna y)).reverse) = true ∧ rooms M y r = true then some (.inr (.inl (y, .ref p :: (st.take (mna y)).reverse, r))) else none
      | _ => none
    | _ => none
  | none => none
def invI (M ix pc : Nat) (ls : rL) (st : List Value) (h : rH) (k s : Nat) : rS := match asc objT (ow M) ix with
  | some _ => match st with
    | .ref _ :: r => if 1 ≤ fr M ∧ vcat r + 12 ≤ lo M then nx (pc + 3) ls r h k s else none
    | _ => none
  | none => match asc mthT (ow M) ix with
    | some (y, _) => match st.drop (mna y) with
      | .ref p :: r => if mst y = false ∧ (my y).name = "<init>" ∧ mr y = none ∧ mh y = [] ∧ okA y (.ref p :: (st.take (mna y)).reverse) = true ∧ rooms M y r = true then some (.inr (.inl (y, .ref p :: (st.take (mna y)).reverse, r))) else none
      | _ => none
    | none => none
def done (r : rO) (h : rH) (k s : Nat) : rS := some (.inr (.inr (r, h, k, s)))
def retI (M : Nat) (st : List Value) (h : rH) (k s : Nat) : rS := match st with
  | [.int v] => match mr M with
    | some ty => if narrow ty (.int v) = .int v then done (.inl (some (.int v))) h k s else none
    | none => none
  | _ => none
def retA (M : Nat) (st : List Value) (h : rH) (k s : Nat) : rS := match st with
  | [.ref p] => match mr M with
    | some (.object _) => done (.inl (some (.ref p))) h k s
    | _ => none
  | _ => none
def retV (M : Nat) (st : List Value) (h : rH) (k s : Nat) : rS := match st with
  | [] => match mr M with
    | none => done (.inl none) h k s
    | some _ => none
  | _ => none
def tsw (d lo hi : Int) (offs : Array Int) (pc : Nat) (ls : rL) (st : List Value) (h : rH) (k s : Nat) : rS := match st with
  | .int x :: r => if x.toInt < lo ∨ hi < x.toInt then (match tgt pc d with
      | some t => nx t ls r h k s
      | none => none) else (match offs[(x.toInt - lo).toNat]? with
      | some off => (match tgt pc off with
        | some t => nx t ls r h k s
        | none => none)
      | none => none)
  | _ => none
/-- the instruction, of its written length -/
def okl (i : Instr) (len : Nat) : Bool := match i with
  | .tableswitch _ _ _ _ => true
  | .bipush _ => len == 2
  | .iload _ => len == 2
  | .aload _ => len == 2
  | .istore _ => len == 2
  | .astore _ => len == 2
  | .ldc _ => len == 2
  | .newarray _ => len == 2
  | .sipush _ => len == 3
  | .ldc_w _ => len == 3
  | .goto _ => len == 3
  | .ifCond _ _ => len == 3
  | .if_icmp _ _ => len == 3
  | .iinc _ _ => len == 3
  | .getfield _ => len == 3
  | .putfield _ => len == 3
  | .getstatic _ => len == 3
  | .new _ => len == 3
  | .invokestatic _ => len == 3
  | .invokevirtual _ => len == 3
  | .invokespecial _ => len == 3
  | _ => len == 1
def stepI (X : rX) (M pc : Nat) (i : Instr) (ls : rL) (st : List Value) (h : rH) (k s : Nat) : rS := match i with
  | .iconst n => nx (pc + 1) ls (.int (Int32.ofInt n) :: st) h k s
  | .bipush n => nx (pc + 2) ls (.int (Int8.ofInt n).toInt32 :: st) h k s
  | .sipush n => nx (pc + 3) ls (.int (Int16.ofInt n).toInt32 :: st) h k s
  | .ldc ix => (match asc cstT (ow M) ix with
    | some v => nx (pc + 2) ls (.int v :: st) h k s
    | none => none)
  | .ldc_w ix => (match asc cstT (ow M) ix with
    | some v => nx (pc + 3) ls (.int v :: st) h k s
    | none => none)
  | .iload_n i => ldI ls i.val (pc + 1) st h k s
  | .iload i => ldI ls i (pc + 2) st h k s
  | .aload_n i => ldA ls i.val (pc + 1) st h k s
  | .aload i => ldA ls i (pc + 2) st h k s
  | .istore_n i => stI ls i.val (pc + 1) st h k s
  | .istore i => stI ls i (pc + 2) st h k s
  | .astore_n i => stA ls i.val (pc + 1) st h k s
  | .astore i => stA ls i (pc + 2) st h k s
  | .iinc i n => (match ls[i]? with
    | some (some (.int x)) => nx (pc + 3) (ls.set i (some (.int (x + Int32.ofInt n)))) st h k s
    | _ => none)
  | .iadd => bin (fun x y => x + y) (pc + 1) ls st h k s
  | .isub => bin (fun x y => x - y) (pc + 1) ls st h k s
  | .imul => bin (fun x y => x * y) (pc + 1) ls st h k s
  | .iand => bin (fun x y => x &&& y) (pc + 1) ls st h k s
  | .ixor => bin (fun x y => x ^^^ y) (pc + 1) ls st h k s
  | .idiv => (match st with
    | .int y :: .int x :: r => if y = 0 then none else nx (pc + 1) ls (.int (x / y) :: r) h k s
    | _ => none)
  | .ineg => (match st with
    | .int x :: r => nx (pc + 1) ls (.int (-x) :: r) h k s
    | _ => none)
  | .i2l => (match st with
    | .int x :: r => nx (pc + 1) ls (.long x.toInt64 :: r) h k s
    | _ => none)
  | .lcmp => (match st with
    | .long y :: .long x :: r => nx (pc + 1) ls (.int (lg_cmp x y) :: r) h k s
    | _ => none)
  | .dup => (match st with
    | .int x :: r => nx (pc + 1) ls (.int x :: .int x :: r) h k s
    | .ref x :: r => nx (pc + 1) ls (.ref x :: .ref x :: r) h k s
    | _ => none)
  | .dup2 => (match st with
    | .int y :: .ref x :: r => nx (pc + 1) ls (.int y :: .ref x :: .int y :: .ref x :: r) h k s
    | _ => none)
  | .ifCond .eq o => icm0 (fun x => decide (x = 0)) (tgt pc o) pc ls st h k s
  | .ifCond .ne o => icm0 (fun x => decide (¬ x = 0)) (tgt pc o) pc ls st h k s
  | .ifCond .lt o => icm0 (fun x => decide (x < 0)) (tgt pc o) pc ls st h k s
  | .ifCond .ge o => icm0 (fun x => decide (0 ≤ x)) (tgt pc o) pc ls st h k s
  | .ifCond .gt o => icm0 (fun x => decide (0 < x)) (tgt pc o) pc ls st h k s
  | .ifCond .le o => icm0 (fun x => decide (x ≤ 0)) (tgt pc o) pc ls st h k s
  | .if_icmp .eq o => icmp (fun x y => decide (x = y)) (tgt pc o) pc ls st h k s
  | .if_icmp .ne o => icmp (fun x y => decide (¬ x = y)) (tgt pc o) pc ls st h k s
  | .if_icmp .lt o => icmp (fun x y => decide (x < y)) (tgt pc o) pc ls st h k s
  | .if_icmp .ge o => icmp (fun x y => decide (y ≤ x)) (tgt pc o) pc ls st h k s
  | .if_icmp .gt o => icmp (fun x y => decide (y < x)) (tgt pc o) pc ls st h k s
  | .if_icmp .le o => icmp (fun x y => decide (x ≤ y)) (tgt pc o) pc ls st h k s
  | .goto o => (match tgt pc o with
    | some t => nx t ls st h k s
    | none => none)
  | .tableswitch d lo hi offs => tsw d lo hi offs pc ls st h k s
  | .iaload => aget X 0 pc ls st h k s
  | .baload => aget X 1 pc ls st h k s
  | .laload => agetL pc ls st h k s
  | .iastore => aput pc ls st h k s
  | .bastore => aputZ pc ls st h k s
  | .lastore => aputL pc ls st h k s
  | .arraylength => alen X pc ls st h k s
  | .getfield ix => fget M ix pc ls st h k s
  | .putfield ix => fput M ix pc ls st h k s
  | .getstatic ix => sget M ix pc ls st h k s
  | .new ix => newo M ix pc ls st h k s
  | .newarray t => newa t pc ls st h k s
  | .invokestatic ix => invS M ix st
  | .invokevirtual ix => invV M ix st h
  | .invokespecial ix => invI M ix pc ls st h k s
  | .ireturn => retI M st h k s
  | .areturn => retA M st h k s
  | .return_ => retV M st h k s
  | _ => none
def stepM (X : rX) (M : Nat) (f : rF) : rS := match decode (mb M) f.1 with
  | .ok (i, len) => if okl i len = true then stepI X M f.1 i f.2.1 f.2.2.1 f.2.2.2.1 f.2.2.2.2.1 f.2.2.2.2.2 else none
  | .error _ => none
def ent (y : Nat) (as : List Value) (h : rH) : rF := (0, as.map some ++ List.replicate (ml y - as.length) none, [], h, 0, 0)
/-- the handler of a class that is thrown at pc -/
def hnd (o E pc : Nat) : List (Nat × Nat × Nat × Nat) → Option Nat
  | [] => none
  | q :: hs => match asc ctT o q.2.2.2 with
    | some c => if c = E then (if q.1 ≤ pc ∧ pc < q.2.1 then some q.2.2.1 else none) else hnd o E pc hs
    | none => none
/-- behind a callee's throw: caught here, or on to the caller -/
def thr (M E pc : Nat) (ls : rL) (h : rH) (k s : Nat) : Option (rF ⊕ rR) := match hnd (ow M) E pc (mh M) with
  | some t => some (.inl (t, ls, [.ref 99999], h, k, s))
  | none => if mh M = [] then some (.inr (.inr E, h, k, s)) else none
def run (X : rX) : Nat → Nat → rF → Option rR
  | 0, _, _ => none
  | n + 1, M, f => match stepM X M f with
    | none => none
    | some (.inl g) => run X n M g
    | some (.inr (.inr r)) => some r
    | some (.inr (.inl (y, as, rest))) => match run X n y (ent y as f.2.2.2.1) with
      | some (.inl v, h, k, s) => run X n M (f.1 + 3, f.2.1, v.toList ++ rest, h, f.2.2.2.2.1 + k, f.2.2.2.2.2 + s)
      | some (.inr E, h, k, s) => (match thr M E f.1 f.2.1 h (f.2.2.2.2.1 + k) (f.2.2.2.2.2 + s) with
        | some (.inl g) => run X n M g
        | some (.inr r) => some r
        | none => none)
      | none => none
theorem run_mono (X : rX) : ∀ (n M : Nat) (f : rF) (r : rR), run X n M f = some r → run X (n + 1) M f = some r := by
  intro n
  induction n with
  | zero => intro M f r h; simp [run] at h
  | succ n ih =>
    intro M f r h
    rw [run] at h ⊢
    cases hs : stepM X M f with
    | none => rw [hs] at h; exact absurd h (by simp)
    | some q =>
      rw [hs] at h
      rcases q with g | ⟨y, as, rest⟩ | r'
      · exact ih M g r h
      · dsimp only at h ⊢
        cases hc : run X n y (ent y as f.2.2.2.1) with
        | none => rw [hc] at h; exact absurd h (by simp)
        | some q =>
          rw [hc] at h
          rw [ih y _ q hc]
          obtain ⟨o, h1, k, s⟩ := q
          cases o with
          | inl v => exact ih M _ r h
          | inr E =>
            dsimp only at h ⊢
            cases hh : thr M E f.1 f.2.1 h1 (f.2.2.2.2.1 + k) (f.2.2.2.2.2 + s) with
            | none => rw [hh] at h; exact h
            | some t =>
              rw [hh] at h
              rcases t with g | r'
              · exact ih M _ r h
              · exact h
      · exact h
theorem run_le {X : rX} {n n' M : Nat} {f : rF} {r : rR} (h : run X n M f = some r) (hn : n ≤ n') : run X n' M f = some r := by
  induction hn with
  | refl => exact h
  | step _ ih => exact run_mono X _ M f r ih
theorem run_det {X : rX} {n n' M : Nat} {f : rF} {r r' : rR} (h : run X n M f = some r) (h' : run X n' M f = some r') : r = r' := by
  have a := run_le h (Nat.le_max_left n n')
  have b := run_le h' (Nat.le_max_right n n')
  exact Option.some.inj (a.symm.trans b)


noncomputable def exM (X : rX) (M pc : Nat) (ls : rL) (st : List Value) (h : rH) (k s : Nat) : Option rR :=
  haveI := Classical.propDecidable (∃ r, ∃ n, run X n M (pc, ls, st, h, k, s) = some r)
  if q : ∃ r, ∃ n, run X n M (pc, ls, st, h, k, s) = some r then some (Classical.choose q) else none
theorem exM_iff {X : rX} {M pc : Nat} {ls : rL} {st : List Value} {h : rH} {k s : Nat} {r : rR} : exM X M pc ls st h k s = some r ↔ ∃ n, run X n M (pc, ls, st, h, k, s) = some r := by
  unfold exM
  constructor
  · intro e
    split at e
    · rename_i q
      obtain ⟨n, hn⟩ := Classical.choose_spec q
      cases e
      exact ⟨n, hn⟩
    · cases e
  · rintro ⟨n, hn⟩
    have q : ∃ r, ∃ n, run X n M (pc, ls, st, h, k, s) = some r := ⟨r, n, hn⟩
    rw [dif_pos q]
    obtain ⟨n', hn'⟩ := Classical.choose_spec q
    rw [run_det hn' hn]
theorem exM_eq {X : rX} {M pc : Nat} {ls : rL} {st : List Value} {h : rH} {k s : Nat} {M' pc' : Nat} {ls' : rL} {st' : List Value} {h' : rH} {k' s' : Nat}
    (e : ∀ r, (∃ n, run X n M (pc, ls, st, h, k, s) = some r) ↔ ∃ n, run X n M' (pc', ls', st', h', k', s') = some r) : exM X M pc ls st h k s = exM X M' pc' ls' st' h' k' s' := by
  apply Option.ext
  intro r
  rw [exM_iff, exM_iff]
  exact e r
/-- one step -/
theorem ex_nx {X : rX} {M pc : Nat} {ls : rL} {st : List Value} {h : rH} {k s : Nat} {pc' : Nat} {ls' : rL} {st' : List Value} {h' : rH} {k' s' : Nat} (e : stepM X M (pc, ls, st, h, k, s) = some (.inl (pc', ls', st', h', k', s'))) : exM X M pc ls st h k s = exM X M pc' ls' st' h' k' s' := by
  apply exM_eq
  intro r
  constructor
  · rintro ⟨n, hn⟩
    cases n with
    | zero => simp [run] at hn
    | succ n => rw [run, e] at hn; exact ⟨n, hn⟩
  · rintro ⟨n, hn⟩
    exact ⟨n + 1, by rw [run, e]; exact hn⟩
theorem ex_done {X : rX} {M pc : Nat} {ls : rL} {st : List Value} {h : rH} {k s : Nat} {r : rR} (e : stepM X M (pc, ls, st, h, k, s) = some (.inr (.inr r))) : exM X M pc ls st h k s = some r := exM_iff.mpr ⟨1, by rw [run, e]⟩
/-- what comes behind a call -/
def bnd (q : Option rR) (f : Option Value → rH → Nat → Nat → Option rR) (g : Nat → rH → Nat → Nat → Option rR) : Option rR := match q with
  | some (.inl v, h, k, s) => f v h k s
  | some (.inr E, h, k, s) => g E h k s
  | none => none
theorem bnd_l (v : Option Value) (h : rH) (k s : Nat) (f : Option Value → rH → Nat → Nat → Option rR) (g : Nat → rH → Nat → Nat → Option rR) : bnd (some (.inl v, h, k, s)) f g = f v h k s := rfl
theorem bnd_r (E : Nat) (h : rH) (k s : Nat) (f : Option Value → rH → Nat → Nat → Option rR) (g : Nat → rH → Nat → Nat → Option rR) : bnd (some (.inr E, h, k, s)) f g = g E h k s := rfl
noncomputable def exC (X : rX) (y : Nat) (as : List Value) (h : rH) : Option rR := exM X y 0 (as.map some ++ List.replicate (ml y - as.length) none) [] h 0 0
theorem ex_call {X : rX} {M pc : Nat} {ls : rL} {st : List Value} {h : rH} {k s : Nat} {y : Nat} {as rest : List Value} (e : stepM X M (pc, ls, st, h, k, s) = some (.inr (.inl (y, as, rest)))) :
    exM X M pc ls st h k s = bnd (exC X y as h) (fun v h1 k1 s1 => exM X M (pc + 3) ls (v.toList ++ rest) h1 (k + k1) (s + s1)) (fun E h1 k1 s1 => match thr M E pc ls h1 (k + k1) (s + s1) with
      | some (.inl g) => exM X M g.1 g.2.1 g.2.2.1 g.2.2.2.1 g.2.2.2.2.1 g.2.2.2.2.2
      | some (.inr r) => some r
      | none => none) := by
  apply Option.ext
  intro r
  rw [exM_iff]
  constructor
  · rintro ⟨n, hn⟩
    cases n with
    | zero => simp [run] at hn
    | succ n =>
      rw [run, e] at hn
      dsimp only at hn
      cases hc : run X n y (ent y as h) with
      | none => rw [hc] at hn; exact absurd hn (by simp)
      | some q =>
        rw [hc] at hn
        have hq : exC X y as h = some q := exM_iff.mpr ⟨n, hc⟩
        rw [hq]
        obtain ⟨o, h1, k1, s1⟩ := q
        cases o with
        | inl v => exact exM_iff.mpr ⟨n, hn⟩
        | inr E =>
          dsimp only [bnd] at hn ⊢
          cases hh : thr M E pc ls h1 (k + k1) (s + s1) with
          | none => rw [hh] at hn; exact hn
          | some t =>
            rw [hh] at hn
            rcases t with g | r'
            · exact exM_iff.mpr ⟨n, hn⟩
            · exact hn
  · intro hr
    cases hc : exC X y as h with
    | none => rw [hc] at hr; exact absurd hr (by simp [bnd])
    | some q =>
      rw [hc] at hr
      obtain ⟨n, hn⟩ := exM_iff.mp hc
      obtain ⟨o, h1, k1, s1⟩ := q
      have e2 : ∀ N, n ≤ N → run X N y (ent y as h) = some (o, h1, k1, s1) := fun N hN => run_le hn hN
      cases o with
      | inl v =>
        obtain ⟨n2, hn2⟩ := exM_iff.mp (show exM X M (pc + 3) ls (v.toList ++ rest) h1 (k + k1) (s + s1) = some r from hr)
        refine ⟨max n n2 + 1, ?_⟩
        rw [run, e]
        dsimp only
        rw [e2 _ (Nat.le_max_left _ _)]
        exact run_le hn2 (Nat.le_max_right _ _)
      | inr E =>
        dsimp only [bnd] at hr
        cases hh : thr M E pc ls h1 (k + k1) (s + s1) with
        | none => rw [hh] at hr; exact absurd hr (by simp)
        | some t =>
          rw [hh] at hr
          rcases t with g | r'
          · obtain ⟨n2, hn2⟩ := exM_iff.mp hr
            refine ⟨max n n2 + 1, ?_⟩
            rw [run, e]
            dsimp only
            rw [e2 _ (Nat.le_max_left _ _)]
            dsimp only
            rw [hh]
            exact run_le hn2 (Nat.le_max_right _ _)
          · refine ⟨n + 1, ?_⟩
            rw [run, e]
            dsimp only
            rw [e2 _ (Nat.le_refl _)]
            dsimp only
            rw [hh]
            exact hr
end
section
/-! WHAT A PICTURE SAYS OF THE HEAP -/
def VR (xt : Nat → Option Nat) (a : List Nat) (v w : Value) : Prop := match v with
  | .int x => w = .int x
  | .long x => w = .long x
  | .null => w = .null
  | .ref p => ∃ q, w = .ref q ∧ (if p < 99999 then a[p]? = some q else (p = 99999 ∨ xt p = some q))
  | _ => False
def FR (V : Value → Value → Prop) : List Value → List Value → Prop
  | [], w => w = []
  | v :: vs, w => ∃ c cs, w = c :: cs ∧ V v c ∧ FR V vs cs
def ER (V : Value → Value → Prop) (dA : Nat → ClassId) (e : rE) (w : va_E) : Prop := match e with
  | .inl (t, x) => w = .inl (dA t, x)
  | .inr (ci, fs) => ∃ gs, w = .inr (ci, gs) ∧ FR V fs gs
/-- a0: the places that were there at the start -/
def HR (xt : Nat → Option Nat) (dA : Nat → ClassId) (a0 : List Nat) (h : rH) (ws : va_W) : Prop := ws.length = h.length ∧ (∀ (k : Nat) (e : rE), h[k]? = some e → ∃ (q : Nat) (ce : va_E), ws[k]? = some (q, ce) ∧ ER (VR xt (ws.map (·.1))) dA e ce) ∧ ∃ b, ws.map (·.1) = a0 ++ b
def LR (V : Value → Value → Prop) (ls : rL) (cls : Array Slot) (n : Nat) : Prop := ls.length = n ∧ ∃ lv, lv_has cls n lv ∧ ∀ (i : Nat) (v : Value), ls[i]? = some (some v) → ∃ w, V v w ∧ w.category = 1 ∧ (i, w) ∈ lv
theorem VR_mono {xt : Nat → Option Nat} {a b : List Nat} {v w : Value} (h : VR xt a v w) : VR xt (a ++ b) v w := by
  cases v with
  | ref p =>
    obtain ⟨q, e, h2⟩ := h
    refine ⟨q, e, ?_⟩
    split at h2
    · rename_i hp
      rw [if_pos hp]
      rw [List.getElem?_append_left (List.getElem?_eq_some_iff.mp h2).1]
      exact h2
    · rename_i hp
      rw [if_neg hp]
      exact h2
  | _ => exact h
theorem FR_mono {V V' : Value → Value → Prop} (hV : ∀ v w, V v w → V' v w) : ∀ {vs ws : List Value}, FR V vs ws → FR V' vs ws
  | [], _, h => h
  | _ :: _, _, ⟨c, cs, e, h1, h2⟩ => ⟨c, cs, e, hV _ _ h1, FR_mono hV h2⟩
theorem ER_mono {V V' : Value → Value → Prop} (hV : ∀ v w, V v w → V' v w) {dA : Nat → ClassId} {e : rE} {w : va_E} (h : ER V dA e w) : ER V' dA e w := by
  cases e with
  | inl x => exact h
  | inr x =>
    obtain ⟨gs, e, h⟩ := h
    exact ⟨gs, e, FR_mono hV h⟩
theorem LR_mono {V V' : Value → Value → Prop} (hV : ∀ v w, V v w → V' v w) {ls : rL} {cls : Array Slot} {n : Nat} (h : LR V ls cls n) : LR V' ls cls n := by
  obtain ⟨h0, lv, h1, h2⟩ := h
  refine ⟨h0, lv, h1, fun i v hv => ?_⟩
  obtain ⟨w, a, b⟩ := h2 i v hv
  exact ⟨w, hV _ _ a, b⟩
theorem FR_len {V : Value → Value → Prop} : ∀ {vs ws : List Value}, FR V vs ws → ws.length = vs.length
  | [], _, h => by cases h; rfl
  | _ :: _, _, ⟨c, cs, e, _, h2⟩ => by rw [e]; simp [FR_len h2]
theorem FR_get {V : Value → Value → Prop} : ∀ {vs ws : List Value}, FR V vs ws → ∀ (k : Nat) (v : Value), vs[k]? = some v → ∃ w, ws[k]? = some w ∧ V v w
  | [], _, _, k, v, hk => by simp at hk
  | _ :: _, _, ⟨c, cs, e, h1, h2⟩, 0, v, hk => by
    rw [e]
    simp at hk
    exact ⟨c, by simp, by rw [← hk]; exact h1⟩
  | _ :: _, _, ⟨c, cs, e, h1, h2⟩, k + 1, v, hk => by
    rw [e]
    simp at hk
    obtain ⟨w, a, b⟩ := FR_get h2 k v hk
    exact ⟨w, by simpa using a, b⟩
theorem FR_set {V : Value → Value → Prop} {v w : Value} (hv : V v w) : ∀ {vs ws : List Value}, FR V vs ws → ∀ (k : Nat), FR V (vs.set k v) (ws.set k w)
  | [], _, h, k => by rw [show _ = ([] : List Value) from h]; simp [FR]
  | _ :: _, _, ⟨c, cs, e, h1, h2⟩, 0 => by
    rw [e]
    exact ⟨w, cs, rfl, hv, h2⟩
  | _ :: _, _, ⟨c, cs, e, h1, h2⟩, k + 1 => by
    rw [e]
    exact ⟨c, cs.set k w, rfl, h1, FR_set hv h2 k⟩
theorem FR_take {V : Value → Value → Prop} : ∀ {vs ws : List Value}, FR V vs ws → ∀ (k : Nat), FR V (vs.take k) (ws.take k)
  | [], _, h, k => by rw [show _ = ([] : List Value) from h]; simp [FR]
  | _ :: _, _, _, 0 => by simp [FR]
  | _ :: _, _, ⟨c, cs, e, h1, h2⟩, k + 1 => by
    rw [e]
    exact ⟨c, cs.take k, rfl, h1, FR_take h2 k⟩
theorem FR_drop {V : Value → Value → Prop} : ∀ {vs ws : List Value}, FR V vs ws → ∀ (k : Nat), FR V (vs.drop k) (ws.drop k)
  | [], _, h, k => by rw [show _ = ([] : List Value) from h]; simp [FR]
  | _ :: _, _, h, 0 => by simpa using h
  | _ :: _, _, ⟨c, cs, e, h1, h2⟩, k + 1 => by
    rw [e]
    simpa using FR_drop h2 k
theorem FR_app {V : Value → Value → Prop} : ∀ {vs ws vs' ws' : List Value}, FR V vs ws → FR V vs' ws' → FR V (vs ++ vs') (ws ++ ws')
  | [], _, _, _, h, h' => by rw [show _ = ([] : List Value) from h]; exact h'
  | _ :: _, _, _, _, ⟨c, cs, e, h1, h2⟩, h' => by
    rw [e]
    exact ⟨c, cs ++ _, rfl, h1, FR_app h2 h'⟩
theorem FR_rev {V : Value → Value → Prop} : ∀ {vs ws : List Value}, FR V vs ws → FR V vs.reverse ws.reverse
  | [], _, h => by rw [show _ = ([] : List Value) from h]; simp [FR]
  | _ :: _, _, ⟨c, cs, e, h1, h2⟩ => by
    rw [e, List.reverse_cons, List.reverse_cons]
    exact FR_app (FR_rev h2) ⟨c, [], rfl, h1, rfl⟩
theorem VR_cat {xt : Nat → Option Nat} {a : List Nat} {v w : Value} (h : VR xt a v w) : w.category = v.category := by
  cases v with
  | ref p => obtain ⟨q, e, _⟩ := h; rw [e]; rfl
  | int x => rw [show w = .int x from h]
  | long x => rw [show w = .long x from h]
  | null => rw [show w = .null from h]
  | _ => exact h.elim
theorem FR_cat {xt : Nat → Option Nat} {a : List Nat} : ∀ {vs ws : List Value}, FR (VR xt a) vs ws → (ws.map fun v => v.category).sum = vcat vs
  | [], _, h => by rw [show _ = ([] : List Value) from h]; rfl
  | _ :: _, _, ⟨c, cs, e, h1, h2⟩ => by
    rw [e]
    simp only [vcat, List.map_cons, List.sum_cons, VR_cat h1]
    rw [FR_cat h2]
    rfl
/-- a cell by its place -/
theorem HR_get {xt : Nat → Option Nat} {dA : Nat → ClassId} {a0 : List Nat} {h : rH} {ws : va_W} (H : HR xt dA a0 h ws) {p : Nat} {e : rE} {w : Value} (hl : lk h p = some e) (hv : VR xt (ws.map (·.1)) (.ref p) w) : ∃ (q : Nat) (ce : va_E), w = .ref q ∧ ws[p]? = some (q, ce) ∧ ER (VR xt (ws.map (·.1))) dA e ce ∧ p < 99999 := by
  unfold lk at hl
  split at hl
  · rename_i hp
    obtain ⟨q, ce, h1, h2⟩ := H.2.1 p e hl
    obtain ⟨q', e', h3⟩ := hv
    rw [if_pos hp] at h3
    simp [h1] at h3
    exact ⟨q, ce, by rw [e', h3], h1, h2, hp⟩
  · cases hl
theorem adr_set {ws : va_W} {p q : Nat} {ce ce' : va_E} (h1 : ws[p]? = some (q, ce)) : (ws.set p (q, ce')).map (·.1) = ws.map (·.1) := by
  apply List.ext_getElem?
  intro i
  rw [List.getElem?_map, List.getElem?_map]
  by_cases hi : p = i
  · subst hi
    rw [List.getElem?_set_self (List.getElem?_eq_some_iff.mp h1).1, h1]
    rfl
  · rw [List.getElem?_set_ne hi]
theorem HR_set {xt : Nat → Option Nat} {dA : Nat → ClassId} {a0 : List Nat} {h : rH} {ws : va_W} (H : HR xt dA a0 h ws) {p q : Nat} {ce ce' : va_E} {e' : rE} (h1 : ws[p]? = some (q, ce)) (h2 : ER (VR xt (ws.map (·.1))) dA e' ce') : HR xt dA a0 (h.set p e') (ws.set p (q, ce')) := by
  refine ⟨by simp [H.1], fun k e hk => ?_, by rw [adr_set h1]; exact H.2.2⟩
  rw [adr_set h1]
  by_cases hi : p = k
  · subst hi
    have hlt : p < ws.length := (List.getElem?_eq_some_iff.mp h1).1
    rw [List.getElem?_set_self (by rw [← H.1]; exact hlt)] at hk
    cases hk
    exact ⟨q, ce', by rw [List.getElem?_set_self hlt], h2⟩
  · rw [List.getElem?_set_ne hi] at hk
    rw [List.getElem?_set_ne hi]
    exact H.2.1 k e hk
theorem HR_push {xt : Nat → Option Nat} {dA : Nat → ClassId} {a0 : List Nat} {h : rH} {ws : va_W} (H : HR xt dA a0 h ws) {q : Nat} {ce : va_E} {e : rE} (h2 : ER (VR xt (ws.map (·.1) ++ [q])) dA e ce) : HR xt dA a0 (h ++ [e]) (ws ++ [(q, ce)]) := by
  have hm : (ws ++ [(q, ce)]).map (·.1) = ws.map (·.1) ++ [q] := by simp
  refine ⟨by simp [H.1], fun k e9 hk => ?_, by
    obtain ⟨b, hb⟩ := H.2.2
    exact ⟨b ++ [q], by rw [hm, hb, List.append_assoc]⟩⟩
  rw [hm]
  by_cases hi : k < h.length
  · rw [List.getElem?_append_left hi] at hk
    obtain ⟨q', ce', a, b⟩ := H.2.1 k e9 hk
    exact ⟨q', ce', by rw [List.getElem?_append_left (by rw [H.1]; exact hi)]; exact a, ER_mono (fun _ _ => VR_mono) b⟩
  · have hk2 : k = h.length := by
      have := (List.getElem?_eq_some_iff.mp hk).1
      simp at this
      omega
    subst hk2
    rw [List.getElem?_append_right (Nat.le_refl _)] at hk
    simp at hk
    subst hk
    exact ⟨q, ce, by rw [List.getElem?_append_right (by rw [H.1]; exact Nat.le_refl _)]; simp [H.1], h2⟩
theorem LR_get {V : Value → Value → Prop} {ls : rL} {cls : Array Slot} {n : Nat} (h : LR V ls cls n) {i : Nat} {v : Value} (hi : ls[i]? = some (some v)) : ∃ w, V v w ∧ cls[i]? = some (.val w) := by
  obtain ⟨h0, lv, h1, h2⟩ := h
  obtain ⟨w, a, b, c⟩ := h2 i v hi
  exact ⟨w, a, h1.2.2 (i, w) c⟩
theorem LR_set {V : Value → Value → Prop} {ls : rL} {cls' : Array Slot} {n : Nat} {lv : List (Nat × Value)} (h0 : ls.length = n) (h2 : ∀ (i : Nat) (v : Value), ls[i]? = some (some v) → ∃ w, V v w ∧ w.category = 1 ∧ (i, w) ∈ lv) {i : Nat} {v w : Value} (hv : V v w) (hc : w.category = 1)
    (h' : lv_has cls' n ((i, w) :: lv.filter (fun q => !(q.1 == i) && !(q.1 + 1 == i && q.2.category == 2)))) : LR V (ls.set i (some v)) cls' n := by
  refine ⟨by simp [h0], _, h', fun j v2 hj => ?_⟩
  by_cases hi : i = j
  · subst hi
    have hlt : i < ls.length := by
      have := (List.getElem?_eq_some_iff.mp hj).1
      simpa using this
    rw [List.getElem?_set_self hlt] at hj
    cases hj
    exact ⟨w, hv, hc, List.mem_cons_self⟩
  · rw [List.getElem?_set_ne hi] at hj
    obtain ⟨w2, a, b, c⟩ := h2 j v2 hj
    refine ⟨w2, a, b, List.mem_cons_of_mem _ (List.mem_filter.mpr ⟨c, ?_⟩)⟩
    have : ¬ j = i := fun e => hi e.symm
    simp [this, b]
def okv : Value → Bool
  | .int _ => true
  | .null => true
  | _ => false
theorem VR_ok {xt : Nat → Option Nat} {a : List Nat} {v : Value} (h : okv v = true) : VR xt a v v := by
  cases v <;> first | rfl | (simp [okv] at h)
theorem FR_ok {xt : Nat → Option Nat} {a : List Nat} : ∀ {vs : List Value}, vs.all okv = true → FR (VR xt a) vs vs
  | [], _ => rfl
  | v :: vs, h => by
    simp only [List.all_cons, Bool.and_eq_true] at h
    exact ⟨v, vs, rfl, VR_ok h.1, FR_ok h.2⟩
/-- the entry's locals -/
theorem LR_entry {V : Value → Value → Prop} (hV : ∀ v w, V v w → w.category = v.category) : ∀ {as cas : List Value}, FR V as cas → as.all (fun v => v.category == 1) = true → ∀ (k i : Nat) (v : Value), (as.map some)[i]? = some (some v) → ∃ w, V v w ∧ w.category = 1 ∧ (k + i, w) ∈ lv_args k cas
  | [], _, _, _, k, i, v, hi => by simp at hi
  | a :: as, _, ⟨c, cs, e, h1, h2⟩, hc, k, i, v, hi => by
    simp only [List.all_cons, Bool.and_eq_true, beq_iff_eq] at hc
    have hcc : c.category = 1 := by rw [hV _ _ h1, hc.1]
    rw [e]
    simp only [lv_args, hcc]
    cases i with
    | zero =>
      simp at hi
      subst hi
      exact ⟨c, h1, hcc, by simp⟩
    | succ i =>
      simp only [List.map_cons, List.getElem?_cons_succ] at hi
      obtain ⟨w, x, y, z⟩ := LR_entry hV h2 hc.2 (k + 1) i v hi
      refine ⟨w, x, y, ?_⟩
      rw [show k + (i + 1) = k + 1 + i by omega]
      refine List.mem_cons_of_mem _ ?_
      simpa using z
/-- what the start gives of the heap's old cells -/
def EXT (X : rX) (xt : Nat → Option Nat) (A : Nat → Prop) (U : State) (H : Heap) : Prop :=
  (∀ (e q : Nat), xt e = some q → ∃ (n : Nat) (f : Nat → Int32), xar X e = some (n, f) ∧ va_T .int q n (fun j => .int (f j)) A U H) ∧
  (∃ q, xt 100001 = some q ∧ va_Z staC staN staD (.ref q) A U H) ∧
  vx_Zq Bundle.tN "UNASSIGNED_STACK" Bundle.steD A U H ∧ vx_Zq Bundle.tN "SUPPRESSED_SENTINEL" Bundle.listD A U H ∧
  (∀ z ∈ excT, ∃ sa, vk_R (rn z.1) z.2.2.1 z.2.2.2.2.2 sa U) ∧ (∀ i j : Nat, i < 3 → j < 3 → i ≠ j → va_Nc (en i) (en j) U)
theorem EXT.to {X : rX} {xt : Nat → Option Nat} {A B : Nat → Prop} {u U : State} {H0 H : Heap} (hvm : u.WarmedH U.vm) (hq : ∀ a : Nat, a < H0.size → ¬ A a → H[a]? = H0[a]?) (hAB : ∀ q, B q → A q) (h : EXT X xt A u H0) : EXT X xt B U H := by
  obtain ⟨h1, ⟨q, h2, h3⟩, h4, h5, h6, h7⟩ := h
  refine ⟨fun e q he => ?_, ⟨q, h2, ((h3.moved hvm.alike).kept hq).narrow hAB⟩, ((h4.moved hvm.alike).kept hq).narrow hAB, ((h5.moved hvm.alike).kept hq).narrow hAB, fun z hz => ?_, fun i j a b c => (h7 i j a b c).moved hvm.alike⟩
  · obtain ⟨n, f, a, b⟩ := h1 e q he
    exact ⟨n, f, a, ((b.moved hvm.alike).kept hq).narrow hAB⟩
  · obtain ⟨sa, a⟩ := h6 z hz
    exact ⟨sa, a.warm hvm⟩
theorem EXT.same {X : rX} {xt : Nat → Option Nat} {A : Nat → Prop} {u U : State} {H : Heap} (hv : U.vm = u.vm) (h : EXT X xt A u H) : EXT X xt A U H := by
  obtain ⟨h1, ⟨q, h2, h3⟩, h4, h5, h6, h7⟩ := h
  have ha : u.vm.Alike U.vm := by rw [hv]; exact Vm.Alike.refl _
  refine ⟨fun e q he => ?_, ⟨q, h2, h3.moved ha⟩, h4.moved ha, h5.moved ha, fun z hz => ?_, fun i j a b c => (h7 i j a b c).moved ha⟩
  · obtain ⟨n, f, a, b⟩ := h1 e q he
    exact ⟨n, f, a, b.moved ha⟩
  · obtain ⟨sa, a⟩ := h6 z hz
    exact ⟨sa, vk_R.same hv a⟩
def tysA (dA : Nat → ClassId) : List (ClassId × FieldType) := [(dA 0, .int), (dA 1, .boolean), (dA 2, .long)]
theorem vw_len : vwCl.length = 10 := rfl
theorem tyC_ok {ci : Nat} {q : vw_C} (h : vwCl[ci]? = some q) : ∀ k, k < q.2.2 → parseFieldDescriptor (q.2.1 k).2.2.1 = some (tyC ci k) := by
  match ci, h with
  | 0, h => cases h; exact tyX0_ok
  | 1, h => cases h; exact tyX1_ok
  | 2, h => cases h; exact tyX2_ok
  | 3, h => cases h; exact tyX3_ok
  | 4, h => cases h; exact tyX4_ok
  | 5, h => cases h; exact tyX5_ok
  | 6, h => cases h; exact tyX6_ok
  | 7, h => cases h; exact tyX7_ok
  | 8, h => cases h; exact tyX8_ok
  | 9, h => cases h; exact tyX9_ok
  | n + 10, h => simp at h
theorem nmC_ok {ci : Nat} {q : vw_C} (h : vwCl[ci]? = some q) : ∀ a, a < q.2.2 → ∀ b, b < q.2.2 → a ≠ b → (q.2.1 a).2.1 ≠ (q.2.1 b).2.1 := by
  match ci, h with
  | 0, h => cases h; exact nmX0
  | 1, h => cases h; exact nmX1
  | 2, h => cases h; exact nmX2
  | 3, h => cases h; exact nmX3
  | 4, h => cases h; exact nmX4
  | 5, h => cases h; exact nmX5
  | 6, h => cases h; exact nmX6
  | 7, h => cases h; exact nmX7
  | 8, h => cases h; exact nmX8
  | 9, h => cases h; exact nmX9
  | n + 10, h => simp at h
theorem inC_ok {ci : Nat} {q : vw_C} (h : vwCl[ci]? = some q) : ∀ w ∈ u_ws q.1 q.2.1 q.2.2, w ∈ TBL := by
  match ci, h with
  | 0, h => cases h; exact inC0
  | 1, h => cases h; exact inC1
  | 2, h => cases h; exact inC2
  | 3, h => cases h; exact inC3
  | 4, h => cases h; exact inC4
  | 5, h => cases h; exact inC5
  | 6, h => cases h; exact inC6
  | 7, h => cases h; exact inC7
  | 8, h => cases h; exact inC8
  | 9, h => cases h; exact inC9
  | n + 10, h => simp at h
theorem rn_cl {ci : Nat} (hc : ci < 10) : vwCl[ci]? = some (clC ci) ∧ (clC ci).1 = rn ci := by
  match ci, hc with
  | 0, _ => exact ⟨rfl, rfl⟩
  | 1, _ => exact ⟨rfl, rfl⟩
  | 2, _ => exact ⟨rfl, rfl⟩
  | 3, _ => exact ⟨rfl, rfl⟩
  | 4, _ => exact ⟨rfl, rfl⟩
  | 5, _ => exact ⟨rfl, rfl⟩
  | 6, _ => exact ⟨rfl, rfl⟩
  | 7, _ => exact ⟨rfl, rfl⟩
  | 8, _ => exact ⟨rfl, rfl⟩
  | 9, _ => exact ⟨rfl, rfl⟩
theorem dfl_ok {ci : Nat} (hc : ci < 10) : (dfl ci).all okv = true := by
  have h : ∀ c, c < 10 → (dfl c).all okv = true := by decide +kernel
  exact h ci hc
theorem narrow_ref (ty : FieldType) (p q : Nat) (h : narrow ty (.ref p) = .ref p) : narrow ty (.ref q) = .ref q := by
  cases ty <;> rfl
theorem fits_ref (ty : FieldType) (p q : Nat) (h : fits ty (.ref p) = true) : fits ty (.ref q) = true := by
  cases ty <;> first | exact h | rfl
theorem xar_ge {X : rX} {p : Nat} {r : rX} (h : xar X p = some r) : ¬ p < 99999 ∧ p ≠ 99999 := by
  unfold xar at h
  split at h
  · omega
  · split at h
    · omega
    · cases h
end
section
/-! ONE STEP OF THE MACHINE IS ONE STEP OF THE JVM -/
section SND
variable {p : Program} {l : Launch} {e : Env} {R : Room} {s : State} {m : MethodId} {args : Array Value} {below : List Frame} {meth : Method} {c : Code} {Q : State → Prop} {D : va_G} {dA : Nat → ClassId} {A : Nat → Prop} {xt : Nat → Option Nat} {X : rX} {M : Nat} {a0 : List Nat}
variable {pc ks ss : Nat} {ls : rL} {st : List Value} {h : rH} {g : rF}
def CX (p : Program) (l : Launch) (R : Room) (s : State) (m : MethodId) (args : Array Value) (meth : Method) (c : Code) (D : va_G) (dA : Nat → ClassId) (A : Nat → Prop) (xt : Nat → Option Nat) (X : rX) (M : Nat) : Prop :=
  (p.tables.exec = Jvm.exec ∧ c.code = mb M ∧ c.maxLocals = ml M ∧ s.vm.findClass (rn (ow M)) = some m.cls ∧ ∀ w ∈ TBL, w.before args s = true) ∧ va_K D vwCl (tysA dA) s ∧ (∀ q : Nat, s.heap.size ≤ q → A q) ∧ (fr M ≤ R.frames ∧ lo M ≤ R.locals) ∧ EXT X xt A s s.heap ∧ l.stackTraces = false ∧ meth.locks = false ∧ meth.sig.returnType = mr M ∧ ((my M).name = "<init>" → meth.name = "<init>")
def GO (p : Program) (l : Launch) (e : Env) (R : Room) (s : State) (m : MethodId) (args : Array Value) (below : List Frame) (meth : Method) (c : Code) (Q : State → Prop) (D : va_G) (dA : Nat → ClassId) (A : Nat → Prop) (xt : Nat → Option Nat) (a0 : List Nat) (M : Nat) (f : rF) : Prop :=
  ∀ (H : Heap) (locs : List Loc) (cls : Array Slot) (cst : List Value) (ws : va_W), HR xt dA a0 f.2.2.2.1 ws → va_P D vwCl ws H → va_D A ws → va_S A s.heap H locs → FR (VR xt (ws.map (·.1))) f.2.2.1 cst → LR (VR xt (ws.map (·.1))) f.2.1 cls (ml M) →
    W p l e R s m args below meth c H locs f.2.2.2.2.1 f.2.2.2.2.2 Q (F0 m f.1 cls cst)
theorem FRi {xt : Nat → Option Nat} {a : List Nat} {x : Int32} {vs cst : List Value} (h : FR (VR xt a) (.int x :: vs) cst) : ∃ cs, cst = .int x :: cs ∧ FR (VR xt a) vs cs := by
  obtain ⟨c, cs, e, h1, h2⟩ := h
  have h3 : c = .int x := h1
  exact ⟨cs, by rw [e, h3], h2⟩
theorem FRl {xt : Nat → Option Nat} {a : List Nat} {x : Int64} {vs cst : List Value} (h : FR (VR xt a) (.long x :: vs) cst) : ∃ cs, cst = .long x :: cs ∧ FR (VR xt a) vs cs := by
  obtain ⟨c, cs, e, h1, h2⟩ := h
  have h3 : c = .long x := h1
  exact ⟨cs, by rw [e, h3], h2⟩
theorem FRr {xt : Nat → Option Nat} {a : List Nat} {p : Nat} {vs cst : List Value} (h : FR (VR xt a) (.ref p :: vs) cst) : ∃ q cs, cst = .ref q :: cs ∧ VR xt a (.ref p) (.ref q) ∧ FR (VR xt a) vs cs := by
  obtain ⟨c, cs, e, h1, h2⟩ := h
  obtain ⟨q, h3, h4⟩ := h1
  exact ⟨q, cs, by rw [e, h3], ⟨q, rfl, h4⟩, h2⟩
theorem go_bin {fn : Int32 → Int32 → Int32} (hrow : ∀ {H : Heap} {locs : List Loc} {cells slots : Nat} {cls : Array Slot} {rest : List Value} {x y : Int32}, W p l e R s m args below meth c H locs cells slots Q (F0 m (pc + 1) cls (.int (fn x y) :: rest)) → W p l e R s m args below meth c H locs cells slots Q (F0 m pc cls (.int y :: .int x :: rest)))
    (he : bin fn (pc + 1) ls st h ks ss = some (.inl g)) (K : GO p l e R s m args below meth c Q D dA A xt a0 M g) : GO p l e R s m args below meth c Q D dA A xt a0 M (pc, ls, st, h, ks, ss) := by
  intro H locs cls cst ws hH hP hD hS hst hls
  unfold bin at he
  split at he
  · unfold nx at he
    cases he
    obtain ⟨c1, rfl, h1⟩ := FRi hst
    obtain ⟨c2, rfl, h2⟩ := FRi h1
    exact hrow (K H locs cls _ ws hH hP hD hS ⟨_, _, rfl, rfl, h2⟩ hls)
  · cases he
theorem tgt_spec {pc : Nat} {off : Int} {t : Nat} (h : tgt pc off = some t) : (pc : Int) + off = (t : Int) := by
  unfold tgt at h
  split at h
  · cases h
    omega
  · cases h
theorem go_icmp {fn : Int32 → Int32 → Bool} {off : Int} (hrow : ∀ {H : Heap} {locs : List Loc} {cells slots : Nat} {cls : Array Slot} {rest : List Value} {x y : Int32} {t : Nat}, (pc : Int) + off = (t : Int) → (fn x y = true → W p l e R s m args below meth c H locs cells slots Q (F0 m t cls rest)) → (fn x y = false → W p l e R s m args below meth c H locs cells slots Q (F0 m (pc + 3) cls rest)) → W p l e R s m args below meth c H locs cells slots Q (F0 m pc cls (.int y :: .int x :: rest)))
    (he : icmp fn (tgt pc off) pc ls st h ks ss = some (.inl g)) (K : GO p l e R s m args below meth c Q D dA A xt a0 M g) : GO p l e R s m args below meth c Q D dA A xt a0 M (pc, ls, st, h, ks, ss) := by
  intro H locs cls cst ws hH hP hD hS hst hls
  unfold icmp jmp at he
  split at he
  · split at he
    · rename_i ht
      unfold nx at he
      cases he
      obtain ⟨c1, rfl, h1⟩ := FRi hst
      obtain ⟨c2, rfl, h2⟩ := FRi h1
      have K' := K H locs cls _ ws hH hP hD hS h2 hls
      refine hrow (tgt_spec ht) (fun q => ?_) (fun q => ?_)
      · simpa only [q, if_true] using K'
      · simpa only [q, Bool.false_eq_true, if_false] using K'
    · cases he
  · cases he
theorem go_icm0 {fn : Int32 → Bool} {off : Int} (hrow : ∀ {H : Heap} {locs : List Loc} {cells slots : Nat} {cls : Array Slot} {rest : List Value} {x : Int32} {t : Nat}, (pc : Int) + off = (t : Int) → (fn x = true → W p l e R s m args below meth c H locs cells slots Q (F0 m t cls rest)) → (fn x = false → W p l e R s m args below meth c H locs cells slots Q (F0 m (pc + 3) cls rest)) → W p l e R s m args below meth c H locs cells slots Q (F0 m pc cls (.int x :: rest)))
    (he : icm0 fn (tgt pc off) pc ls st h ks ss = some (.inl g)) (K : GO p l e R s m args below meth c Q D dA A xt a0 M g) : GO p l e R s m args below meth c Q D dA A xt a0 M (pc, ls, st, h, ks, ss) := by
  intro H locs cls cst ws hH hP hD hS hst hls
  unfold icm0 jmp at he
  split at he
  · split at he
    · rename_i ht
      unfold nx at he
      cases he
      obtain ⟨c1, rfl, h1⟩ := FRi hst
      have K' := K H locs cls _ ws hH hP hD hS h1 hls
      refine hrow (tgt_spec ht) (fun q => ?_) (fun q => ?_)
      · simpa only [q, if_true] using K'
      · simpa only [q, Bool.false_eq_true, if_false] using K'
    · cases he
  · cases he
theorem go_psh {v : Value} {pc' : Nat} (hv : okv v = true) (hrow : ∀ {H : Heap} {locs : List Loc} {cells slots : Nat} {cls : Array Slot} {rest : List Value}, W p l e R s m args below meth c H locs cells slots Q (F0 m pc' cls (v :: rest)) → W p l e R s m args below meth c H locs cells slots Q (F0 m pc cls rest))
    (he : nx pc' ls (v :: st) h ks ss = some (.inl g)) (K : GO p l e R s m args below meth c Q D dA A xt a0 M g) : GO p l e R s m args below meth c Q D dA A xt a0 M (pc, ls, st, h, ks, ss) := by
  intro H locs cls cst ws hH hP hD hS hst hls
  unfold nx at he
  cases he
  exact hrow (K H locs cls _ ws hH hP hD hS ⟨_, _, rfl, VR_ok hv, hst⟩ hls)
theorem go_ldI {i pc' : Nat} (hrow : ∀ {H : Heap} {locs : List Loc} {cells slots : Nat} {cls : Array Slot} {rest : List Value} {x : Int32}, cls[i]? = some (.val (.int x)) → W p l e R s m args below meth c H locs cells slots Q (F0 m pc' cls (.int x :: rest)) → W p l e R s m args below meth c H locs cells slots Q (F0 m pc cls rest))
    (he : ldI ls i pc' st h ks ss = some (.inl g)) (K : GO p l e R s m args below meth c Q D dA A xt a0 M g) : GO p l e R s m args below meth c Q D dA A xt a0 M (pc, ls, st, h, ks, ss) := by
  intro H locs cls cst ws hH hP hD hS hst hls
  unfold ldI at he
  split at he
  · rename_i x hx
    unfold nx at he
    cases he
    obtain ⟨w, h1, h2⟩ := LR_get hls hx
    have h3 : w = .int x := h1
    subst h3
    exact hrow h2 (K H locs cls _ ws hH hP hD hS ⟨_, _, rfl, rfl, hst⟩ hls)
  · cases he
theorem go_ldA {i pc' : Nat} (hrow : ∀ {H : Heap} {locs : List Loc} {cells slots : Nat} {cls : Array Slot} {rest : List Value} {x : Nat}, cls[i]? = some (.val (.ref x)) → W p l e R s m args below meth c H locs cells slots Q (F0 m pc' cls (.ref x :: rest)) → W p l e R s m args below meth c H locs cells slots Q (F0 m pc cls rest))
    (he : ldA ls i pc' st h ks ss = some (.inl g)) (K : GO p l e R s m args below meth c Q D dA A xt a0 M g) : GO p l e R s m args below meth c Q D dA A xt a0 M (pc, ls, st, h, ks, ss) := by
  intro H locs cls cst ws hH hP hD hS hst hls
  unfold ldA at he
  split at he
  · rename_i x hx
    unfold nx at he
    cases he
    obtain ⟨w, h1, h2⟩ := LR_get hls hx
    obtain ⟨q, h3, h4⟩ := h1
    subst h3
    exact hrow h2 (K H locs cls _ ws hH hP hD hS ⟨_, _, rfl, ⟨q, rfl, h4⟩, hst⟩ hls)
  · cases he
theorem go_stI {i pc' : Nat} (hrow : ∀ {H : Heap} {locs : List Loc} {cells slots : Nat} {cls : Array Slot} {rest : List Value} {x : Int32} {lv lv' : List (Nat × Value)}, lv_has cls (ml M) lv → i < ml M → (i, Value.int x) :: lv.filter (fun q => !(q.1 == i) && !(q.1 + 1 == i && q.2.category == 2)) = lv' → (∀ cls' : Array Slot, lv_has cls' (ml M) lv' → W p l e R s m args below meth c H locs cells slots Q (F0 m pc' cls' rest)) → W p l e R s m args below meth c H locs cells slots Q (F0 m pc cls (.int x :: rest)))
    (he : stI ls i pc' st h ks ss = some (.inl g)) (K : GO p l e R s m args below meth c Q D dA A xt a0 M g) : GO p l e R s m args below meth c Q D dA A xt a0 M (pc, ls, st, h, ks, ss) := by
  intro H locs cls cst ws hH hP hD hS hst hls
  unfold stI at he
  split at he
  · split at he
    · rename_i hi
      unfold nx at he
      cases he
      obtain ⟨c1, rfl, h1⟩ := FRi hst
      obtain ⟨h0, lv, h2, h3⟩ := hls
      exact hrow h2 (by rw [← h0]; exact hi) rfl (fun cls' h' => K H locs cls' _ ws hH hP hD hS h1 (LR_set h0 h3 rfl rfl h'))
    · cases he
  · cases he
theorem go_stA {i pc' : Nat} (hrow : ∀ {H : Heap} {locs : List Loc} {cells slots : Nat} {cls : Array Slot} {rest : List Value} {x : Nat} {lv lv' : List (Nat × Value)}, lv_has cls (ml M) lv → i < ml M → (i, Value.ref x) :: lv.filter (fun q => !(q.1 == i) && !(q.1 + 1 == i && q.2.category == 2)) = lv' → (∀ cls' : Array Slot, lv_has cls' (ml M) lv' → W p l e R s m args below meth c H locs cells slots Q (F0 m pc' cls' rest)) → W p l e R s m args below meth c H locs cells slots Q (F0 m pc cls (.ref x :: rest)))
    (he : stA ls i pc' st h ks ss = some (.inl g)) (K : GO p l e R s m args below meth c Q D dA A xt a0 M g) : GO p l e R s m args below meth c Q D dA A xt a0 M (pc, ls, st, h, ks, ss) := by
  intro H locs cls cst ws hH hP hD hS hst hls
  unfold stA at he
  split at he
  · split at he
    · rename_i hi
      unfold nx at he
      cases he
      obtain ⟨q, c1, rfl, hv, h1⟩ := FRr hst
      obtain ⟨h0, lv, h2, h3⟩ := hls
      exact hrow h2 (by rw [← h0]; exact hi) rfl (fun cls' h' => K H locs cls' _ ws hH hP hD hS h1 (LR_set h0 h3 hv rfl h'))
    · cases he
  · cases he
theorem go_aget (cx : CX p l R s m args meth c D dA A xt X M) (hd : decode (mb M) pc = .ok (.iaload, 1)) (he : aget X 0 pc ls st h ks ss = some (.inl g)) (K : GO p l e R s m args below meth c Q D dA A xt a0 M g) : GO p l e R s m args below meth c Q D dA A xt a0 M (pc, ls, st, h, ks, ss) := by
  obtain ⟨⟨hx, hb, hml, hown, hts⟩, hK, hA, hR, hE, -⟩ := cx
  intro H locs cls cst ws hH hP hD hS hst hls
  unfold aget at he
  split at he
  · obtain ⟨c1, rfl, h1⟩ := FRi hst
    obtain ⟨q, c2, rfl, hv, h2⟩ := FRr h1
    split at he
    · rename_i hl
      split at he
      · split at he
        · cases he
        · rename_i ht hin
          subst ht
          unfold nx at he
          cases he
          obtain ⟨q', ce, e1, e2, e3, -⟩ := HR_get hH hl hv
          cases e1
          have e4 : ce = .inl (dA 0, _, .inl _) := e3
          subst e4
          exact va_iald hx hb hK hP _ 0 e2 rfl hin hd (K H locs cls _ ws hH hP hD hS ⟨_, _, rfl, rfl, h2⟩ hls)
      · cases he
    · cases he
    · rename_i hl
      split at he
      · rename_i hxa
        simp only [if_true] at he
        split at he
        · cases he
        · rename_i hin
          unfold nx at he
          cases he
          obtain ⟨q', e1, e2⟩ := hv
          cases e1
          rw [if_neg (xar_ge hxa).1] at e2
          rcases e2 with e2 | e2
          · exact absurd e2 (xar_ge hxa).2
          · obtain ⟨n2, f2, e3, e4⟩ := hE.1 _ _ e2
            rw [hxa] at e3
            cases e3
            exact va_ti hx hb e4 hS hin rfl hd (K H locs cls _ ws hH hP hD hS ⟨_, _, rfl, rfl, h2⟩ hls)
      · cases he
  · cases he
theorem go_agetZ (cx : CX p l R s m args meth c D dA A xt X M) (hd : decode (mb M) pc = .ok (.baload, 1)) (he : aget X 1 pc ls st h ks ss = some (.inl g)) (K : GO p l e R s m args below meth c Q D dA A xt a0 M g) : GO p l e R s m args below meth c Q D dA A xt a0 M (pc, ls, st, h, ks, ss) := by
  obtain ⟨⟨hx, hb, hml, hown, hts⟩, hK, hA, hR, hE, -⟩ := cx
  intro H locs cls cst ws hH hP hD hS hst hls
  unfold aget at he
  split at he
  · obtain ⟨c1, rfl, h1⟩ := FRi hst
    obtain ⟨q, c2, rfl, hv, h2⟩ := FRr h1
    split at he
    · rename_i hl
      split at he
      · split at he
        · cases he
        · rename_i ht hin
          subst ht
          unfold nx at he
          cases he
          obtain ⟨q', ce, e1, e2, e3, -⟩ := HR_get hH hl hv
          cases e1
          have e4 : ce = .inl (dA 1, _, .inl _) := e3
          subst e4
          exact va_zald hx hb hK hP _ 1 e2 rfl hin hd (K H locs cls _ ws hH hP hD hS ⟨_, _, rfl, rfl, h2⟩ hls)
      · cases he
    · cases he
    · split at he
      · simp at he
      · cases he
  · cases he
theorem go_agetL (cx : CX p l R s m args meth c D dA A xt X M) (hd : decode (mb M) pc = .ok (.laload, 1)) (he : agetL pc ls st h ks ss = some (.inl g)) (K : GO p l e R s m args below meth c Q D dA A xt a0 M g) : GO p l e R s m args below meth c Q D dA A xt a0 M (pc, ls, st, h, ks, ss) := by
  obtain ⟨⟨hx, hb, hml, hown, hts⟩, hK, hA, hR, hE, -⟩ := cx
  intro H locs cls cst ws hH hP hD hS hst hls
  unfold agetL at he
  split at he
  · obtain ⟨c1, rfl, h1⟩ := FRi hst
    obtain ⟨q, c2, rfl, hv, h2⟩ := FRr h1
    split at he
    · rename_i hl
      split at he
      · split at he
        · cases he
        · rename_i ht hin
          subst ht
          unfold nx at he
          cases he
          obtain ⟨q', ce, e1, e2, e3, -⟩ := HR_get hH hl hv
          cases e1
          have e4 : ce = .inl (dA 2, _, .inr (.inl _)) := e3
          subst e4
          exact va_lald hx hb hK hP _ 2 e2 rfl hin hd (K H locs cls _ ws hH hP hD hS ⟨_, _, rfl, rfl, h2⟩ hls)
      · cases he
    · cases he
  · cases he
theorem go_aput (cx : CX p l R s m args meth c D dA A xt X M) (hd : decode (mb M) pc = .ok (.iastore, 1)) (he : aput pc ls st h ks ss = some (.inl g)) (K : GO p l e R s m args below meth c Q D dA A xt a0 M g) : GO p l e R s m args below meth c Q D dA A xt a0 M (pc, ls, st, h, ks, ss) := by
  obtain ⟨⟨hx, hb, hml, hown, hts⟩, hK, hA, hR, hE, -⟩ := cx
  intro H locs cls cst ws hH hP hD hS hst hls
  unfold aput at he
  split at he
  · obtain ⟨c0, rfl, h0⟩ := FRi hst
    obtain ⟨c1, rfl, h1⟩ := FRi h0
    obtain ⟨q, c2, rfl, hv, h2⟩ := FRr h1
    split at he
    · rename_i hl
      split at he
      · split at he
        · cases he
        · rename_i ht hin
          subst ht
          unfold nx at he
          cases he
          obtain ⟨q', ce, e1, e2, e3, -⟩ := HR_get hH hl hv
          cases e1
          have e4 : ce = .inl (dA 0, _, .inl _) := e3
          subst e4
          refine va_iast hx hb hK hP hD hS _ 0 e2 rfl hin hd fun H1 locs1 hP1 hD1 hS1 => ?_
          refine K H1 locs1 cls _ _ (HR_set hH e2 rfl) hP1 hD1 hS1 ?_ ?_
          · rw [adr_set e2]; exact h2
          · rw [adr_set e2]; exact hls
      · cases he
    · cases he
  · cases he
theorem go_aputZ (cx : CX p l R s m args meth c D dA A xt X M) (hd : decode (mb M) pc = .ok (.bastore, 1)) (he : aputZ pc ls st h ks ss = some (.inl g)) (K : GO p l e R s m args below meth c Q D dA A xt a0 M g) : GO p l e R s m args below meth c Q D dA A xt a0 M (pc, ls, st, h, ks, ss) := by
  obtain ⟨⟨hx, hb, hml, hown, hts⟩, hK, hA, hR, hE, -⟩ := cx
  intro H locs cls cst ws hH hP hD hS hst hls
  unfold aputZ at he
  split at he
  · obtain ⟨c0, rfl, h0⟩ := FRi hst
    obtain ⟨c1, rfl, h1⟩ := FRi h0
    obtain ⟨q, c2, rfl, hv, h2⟩ := FRr h1
    split at he
    · rename_i hl
      split at he
      · split at he
        · cases he
        · rename_i ht hin
          subst ht
          unfold nx at he
          cases he
          obtain ⟨q', ce, e1, e2, e3, -⟩ := HR_get hH hl hv
          cases e1
          have e4 : ce = .inl (dA 1, _, .inl _) := e3
          subst e4
          refine va_zast hx hb hK hP hD hS _ 1 e2 rfl hin hd fun H1 locs1 hP1 hD1 hS1 => ?_
          refine K H1 locs1 cls _ _ (HR_set hH e2 rfl) hP1 hD1 hS1 ?_ ?_
          · rw [adr_set e2]; exact h2
          · rw [adr_set e2]; exact hls
      · cases he
    · cases he
  · cases he
theorem go_aputL (cx : CX p l R s m args meth c D dA A xt X M) (hd : decode (mb M) pc = .ok (.lastore, 1)) (he : aputL pc ls st h ks ss = some (.inl g)) (K : GO p l e R s m args below meth c Q D dA A xt a0 M g) : GO p l e R s m args below meth c Q D dA A xt a0 M (pc, ls, st, h, ks, ss) := by
  obtain ⟨⟨hx, hb, hml, hown, hts⟩, hK, hA, hR, hE, -⟩ := cx
  intro H locs cls cst ws hH hP hD hS hst hls
  unfold aputL at he
  split at he
  · obtain ⟨c0, rfl, h0⟩ := FRl hst
    obtain ⟨c1, rfl, h1⟩ := FRi h0
    obtain ⟨q, c2, rfl, hv, h2⟩ := FRr h1
    split at he
    · rename_i hl
      split at he
      · split at he
        · cases he
        · rename_i ht hin
          subst ht
          unfold nx at he
          cases he
          obtain ⟨q', ce, e1, e2, e3, -⟩ := HR_get hH hl hv
          cases e1
          have e4 : ce = .inl (dA 2, _, .inr (.inl _)) := e3
          subst e4
          refine va_last hx hb hK hP hD hS _ 2 e2 rfl hin hd fun H1 locs1 hP1 hD1 hS1 => ?_
          refine K H1 locs1 cls _ _ (HR_set hH e2 rfl) hP1 hD1 hS1 ?_ ?_
          · rw [adr_set e2]; exact h2
          · rw [adr_set e2]; exact hls
      · cases he
    · cases he
  · cases he
theorem tysA_get {dA : Nat → ClassId} {t : Nat} (h : t < 3) : ∃ ty, (tysA dA)[t]? = some (dA t, ty) := by
  match t, h with
  | 0, _ => exact ⟨_, rfl⟩
  | 1, _ => exact ⟨_, rfl⟩
  | 2, _ => exact ⟨_, rfl⟩
theorem go_alen (cx : CX p l R s m args meth c D dA A xt X M) (hd : decode (mb M) pc = .ok (.arraylength, 1)) (he : alen X pc ls st h ks ss = some (.inl g)) (K : GO p l e R s m args below meth c Q D dA A xt a0 M g) : GO p l e R s m args below meth c Q D dA A xt a0 M (pc, ls, st, h, ks, ss) := by
  obtain ⟨⟨hx, hb, hml, hown, hts⟩, hK, hA, hR, hE, -⟩ := cx
  intro H locs cls cst ws hH hP hD hS hst hls
  unfold alen at he
  split at he
  · obtain ⟨q, c2, rfl, hv, h2⟩ := FRr hst
    split at he
    · rename_i hl
      split at he
      · rename_i ht
        unfold nx at he
        cases he
        obtain ⟨q', ce, e1, e2, e3, -⟩ := HR_get hH hl hv
        cases e1
        have e4 : ce = .inl (dA _, _) := e3
        subst e4
        obtain ⟨ty, hty⟩ := tysA_get (dA := dA) ht
        exact va_alen hx hb hK hP _ _ e2 hty rfl hd (K H locs cls _ ws hH hP hD hS ⟨_, _, rfl, rfl, h2⟩ hls)
      · cases he
    · cases he
    · rename_i hl
      split at he
      · rename_i hxa
        unfold nx at he
        cases he
        obtain ⟨q', e1, e2⟩ := hv
        cases e1
        rw [if_neg (xar_ge hxa).1] at e2
        rcases e2 with e2 | e2
        · exact absurd e2 (xar_ge hxa).2
        · obtain ⟨n2, f2, e3, e4⟩ := hE.1 _ _ e2
          rw [hxa] at e3
          cases e3
          exact va_tlen hx hb e4 hS rfl hd (K H locs cls _ ws hH hP hD hS ⟨_, _, rfl, rfl, h2⟩ hls)
      · cases he
  · cases he
end SND
end
section
/-! ===== BEGIN a constructor that throws (launches without stack traces) ===== -/
section VXIA
variable {p : Program} {l : Launch} {e : Env} {R : Room} {s : State} {m : MethodId} {args : Array Value} {below : List Frame} {meth : Method} {c : Code} {T : State} {locs : List Loc} {cells slots : Nat}
theorem vx_callI (X : Stand p l e R s m args below meth c T locs cells slots) (hexec : p.tables.exec = Jvm.exec) {own : String} {index : Nat} {y : MethodName} {bytes : ByteArray} {maxL : Nat}
    (hown : s.vm.findClass own = some m.cls) (hy1 : y.name = "<init>") (hlink : (Cond.methodLink own index y).before args s = true) (hinst : (Cond.instanceMethod y).before args s = true)
    (hcode : (Cond.code y bytes maxL none).before args s = true) (hy : y.cls ≠ "java/lang/invoke/MethodHandle" ∧ y.cls ≠ "java/lang/invoke/VarHandle")
    {W9 : Nat} {Pre : Pt → Array Value → Prop} {Post : Pt → Array Value → Option Value → Pt → Prop} {PostX : Pt → Array Value → Addr → Pt → Prop} (hK : vx_Back l R p e below s args y 3 W9 Pre Post PostX)
    {g : JFrame} (hg : g.method = m) (hsize : g.locals.size = c.maxLocals) {a : Addr} {argsL rest : List Value} (hlen : ∀ sig, parseMethodDescriptor y.desc = some sig → argsL.length = sig.parameters.length)
    (hstack : g.stack = argsL.reverse ++ .ref a :: rest) (hW : 2 * g.monitorRoom + (rest.map fun v => v.category).sum ≤ W9) (hdg : decode c.code g.pc = .ok (.invokespecial index, 3))
    (hpre : ∀ vm₁, s.WarmedH vm₁ → Pre ⟨T.setVm vm₁, locs, cells, slots⟩ (Value.ref a :: argsL).toArray) :
    (∃ (v : Option Value) (vm₁ : Vm) (B : Pt), s.WarmedH vm₁ ∧ Stand p l e R s m args below meth c B.U B.locs B.cells B.slots ∧ Post ⟨T.setVm vm₁, locs, cells, slots⟩ (Value.ref a :: argsL).toArray v B ∧
      ∀ target, Steps p.tables e below (B.U.setTop { g with pc := g.pc + 3, stack := v.toList ++ rest }) target → Steps p.tables e below (T.setTop g) target) ∨
    (∃ (q : Addr) (vm₁ : Vm) (B : Pt), s.WarmedH vm₁ ∧ Stand p l e R s m args below meth c B.U B.locs B.cells B.slots ∧ PostX ⟨T.setVm vm₁, locs, cells, slots⟩ (Value.ref a :: argsL).toArray q B ∧
      Steps p.tables e below (T.setTop g) ((B.U.setTop { g with stack := rest }).pushFrame (.throwing q))) := by
  subst hg
  have hpl : e.platform.magicAccessors = ({} : Platform).magicAccessors := by rw [X.admits.platform]
  obtain ⟨mk, methM, cM, kP, vm₁, hnamed, hmethM, hcodeM, -, hlocalsM, -, hkP, -, hW₁, hstep₁⟩ := Steps.initColdArgs (e := e) X.here hexec X.warmed hpl hown hy1 hy hlink hinst hcode (f := g) rfl hlen hstack hdg
  have X₁ := X.noted hW₁
  rcases hK g.method meth c ⟨T.setVm vm₁, locs, cells, slots⟩ { g with stack := rest } (.invokespecial index) mk (Value.ref a :: argsL).toArray X₁ rfl hsize hdg hW (X₁.named hnamed) (hpre vm₁ X₁.warmed) with ⟨v, B, X', hpost, hsteps⟩ | ⟨q, B, X', hpost, hsteps⟩
  · exact Or.inl ⟨v, vm₁, B, X₁.warmed, X', hpost, fun target h => hstep₁ _ fun acts => by rw [doInvoke_state]; exact hsteps.trans h⟩
  · exact Or.inr ⟨q, vm₁, B, X₁.warmed, X', hpost, hstep₁ _ fun acts => by rw [doInvoke_state]; exact hsteps⟩
end VXIA
section VXIB
variable {p : Program} {l : Launch} {e : Env} {R : Room} {s : State} {m : MethodId} {args : Array Value} {below : List Frame} {meth : Method} {c : Code} {H : Heap} {locs : List Loc} {cells slots : Nat}
variable {y : MethodName} {bytes cc : ByteArray} {maxL nL mc ms n index : Nat} {ret : Option FieldType} {ws : List Cond} {rm : Room} {Pc : Array Value → State → Prop} {Qc : Array Value → State → Outcome → State → Prop} {XC : String → State → State → Prop} {free : Addr → Prop} {Ts : List Cond} {own C : String} {b : Addr} {As rest : List Value} {g : JFrame}
theorem vx_runI (S : CallFix p m c cc nL s args Ts own) (hM : vx_Met l y ws rm Pc Qc XC mc ms free) (cw : CallB R s args own index y bytes maxL none ws rm mc ms n ∧ y.name = "<init>" ∧ (Cond.instanceMethod y).before args s = true) (hp : PreS s H Pc (.ref b :: As))
    (hg : g.method = m) (hn : As.length = n) (hsize : g.locals.size = nL) (hstack : g.stack = As.reverse ++ .ref b :: rest) (hW : 2 * g.monitorRoom + (rest.map fun v => v.category).sum ≤ 8) (hdg : decode cc g.pc = .ok (.invokespecial index, 3)) (hf : cells + mc ≤ R.cells ∧ slots + ms ≤ R.slots) :
    vx_Run p l e R s m args below meth c H locs cells slots mc ms g rest (Qc (Value.ref b :: As).toArray) XC free := by
  have hK : vx_Back l R p e below s args y 3 8 (PreOf R mc ms Pc) (PostOf Qc mc ms free) (vx_Post XC mc ms free) := vx_callBack cw.1 hM hp.1
  obtain ⟨⟨-, -, -, -, -, -, hcode, -, hy, hlen, hl⟩, hy1, hin⟩ := cw
  obtain ⟨hx, hb, hml, ho, -⟩ := S
  have hPc := hp.2
  intro T hT X
  rcases vx_callI X hx (bytes := bytes) (maxL := maxL) ho hy1 hl hin hcode hy hK hg (hsize.trans hml.symm) (a := b) (argsL := As) (rest := rest) (fun sig h => hn.trans (hlen sig h)) hstack hW (by rw [hb]; exact hdg)
    (fun vm₁ hW₁ => ⟨hf.1, hf.2, hPc (T.setVm vm₁) hT hW₁⟩) with ⟨v, vm₁, ⟨U', l2, c2, s2⟩, hW₁, X', ⟨g', mk, t, L, e1, e2, hq, h1, hL, h2, h3⟩, st⟩ | ⟨q, vm₁, ⟨U', l2, c2, s2⟩, hW₁, X', ⟨g', mk, t, L, E, ce, e1, e2, hq, hce, hcv, hcl, h1, hL, h2, h3⟩, st⟩
  · dsimp only [Pt.U, Pt.locs, Pt.cells, Pt.slots] at X' e1 e2 h1 h2 h3 st
    subst h1; subst h2; subst h3
    exact Or.inl ⟨v, (T.setVm vm₁).calling g' mk (Value.ref b :: As).toArray, t, U', L, hT, X', hL, e1, e2, hq, st⟩
  · dsimp only [Pt.U, Pt.locs, Pt.cells, Pt.slots] at X' e1 e2 h1 h2 h3 st hcl
    subst h1; subst h2; subst h3
    exact Or.inr ⟨q, (T.setVm vm₁).calling g' mk (Value.ref b :: As).toArray, t, U', L, E, ce, hT, X', hL, e1, e2, hq, hce, hcv, vx_cls hW₁ hcl, st⟩
end VXIB
/-! ===== END ===== -/
/-! ===== BEGIN a private constructor of a nest mate that throws ===== -/
section VXIC
variable {p : Program} {l : Launch} {e : Env} {R : Room} {s : State} {m : MethodId} {args : Array Value} {below : List Frame} {meth : Method} {c : Code} {T : State} {locs : List Loc} {cells slots : Nat}
theorem vx_callIN (X : Stand p l e R s m args below meth c T locs cells slots) (hexec : p.tables.exec = Jvm.exec) {own : String} {index : Nat} {host : String} {y : MethodName} {bytes : ByteArray} {maxL : Nat}
    (hown : s.vm.findClass own = some m.cls) (hy1 : y.name = "<init>") (hlink : (Cond.methodLinkNest own index y host).before args s = true) (hinst : (Cond.instanceMethod y).before args s = true)
    (hcode : (Cond.code y bytes maxL none).before args s = true) (hy : y.cls ≠ "java/lang/invoke/MethodHandle" ∧ y.cls ≠ "java/lang/invoke/VarHandle")
    {W9 : Nat} {Pre : Pt → Array Value → Prop} {Post : Pt → Array Value → Option Value → Pt → Prop} {PostX : Pt → Array Value → Addr → Pt → Prop} (hK : vx_Back l R p e below s args y 3 W9 Pre Post PostX)
    {g : JFrame} (hg : g.method = m) (hsize : g.locals.size = c.maxLocals) {a : Addr} {argsL rest : List Value} (hlen : ∀ sig, parseMethodDescriptor y.desc = some sig → argsL.length = sig.parameters.length)
    (hstack : g.stack = argsL.reverse ++ .ref a :: rest) (hW : 2 * g.monitorRoom + (rest.map fun v => v.category).sum ≤ W9) (hdg : decode c.code g.pc = .ok (.invokespecial index, 3))
    (hpre : ∀ vm₁, s.WarmedH vm₁ → Pre ⟨T.setVm vm₁, locs, cells, slots⟩ (Value.ref a :: argsL).toArray) :
    (∃ (v : Option Value) (vm₁ : Vm) (B : Pt), s.WarmedH vm₁ ∧ Stand p l e R s m args below meth c B.U B.locs B.cells B.slots ∧ Post ⟨T.setVm vm₁, locs, cells, slots⟩ (Value.ref a :: argsL).toArray v B ∧
      ∀ target, Steps p.tables e below (B.U.setTop { g with pc := g.pc + 3, stack := v.toList ++ rest }) target → Steps p.tables e below (T.setTop g) target) ∨
    (∃ (q : Addr) (vm₁ : Vm) (B : Pt), s.WarmedH vm₁ ∧ Stand p l e R s m args below meth c B.U B.locs B.cells B.slots ∧ PostX ⟨T.setVm vm₁, locs, cells, slots⟩ (Value.ref a :: argsL).toArray q B ∧
      Steps p.tables e below (T.setTop g) ((B.U.setTop { g with stack := rest }).pushFrame (.throwing q))) := by
  subst hg
  have hpl : e.platform.magicAccessors = ({} : Platform).magicAccessors := by rw [X.admits.platform]
  obtain ⟨mk, methM, cM, kP, vm₁, hnamed, hmethM, hcodeM, -, hlocalsM, -, hkP, -, hW₁, hstep₁⟩ := Steps.initColdArgsNest (e := e) X.here hexec X.warmed hpl hown hy1 hy hlink hinst hcode (f := g) rfl hlen hstack hdg
  have X₁ := X.noted hW₁
  rcases hK g.method meth c ⟨T.setVm vm₁, locs, cells, slots⟩ { g with stack := rest } (.invokespecial index) mk (Value.ref a :: argsL).toArray X₁ rfl hsize hdg hW (X₁.named hnamed) (hpre vm₁ X₁.warmed) with ⟨v, B, X', hpost, hsteps⟩ | ⟨q, B, X', hpost, hsteps⟩
  · exact Or.inl ⟨v, vm₁, B, X₁.warmed, X', hpost, fun target h => hstep₁ _ fun acts => by rw [doInvoke_state]; exact hsteps.trans h⟩
  · exact Or.inr ⟨q, vm₁, B, X₁.warmed, X', hpost, hstep₁ _ fun acts => by rw [doInvoke_state]; exact hsteps⟩
end VXIC
section VXID
variable {p : Program} {l : Launch} {e : Env} {R : Room} {s : State} {m : MethodId} {args : Array Value} {below : List Frame} {meth : Method} {c : Code} {H : Heap} {locs : List Loc} {cells slots : Nat}
theorem vx_runIN {y : MethodName} {bytes cc : ByteArray} {maxL nL mc ms n index : Nat} {ws : List Cond} {rm : Room} {Pc : Array Value → State → Prop} {Qc : Array Value → State → Outcome → State → Prop} {XC : String → State → State → Prop} {free : Addr → Prop} {Ts : List Cond} {own host : String} {b : Addr} {As rest : List Value} {g : JFrame}
    (S : CallFix p m c cc nL s args Ts own) (hM : vx_Met l y ws rm Pc Qc XC mc ms free) (cw : va_CN R s args own index y host bytes maxL none ws rm mc ms n ∧ y.name = "<init>" ∧ (Cond.instanceMethod y).before args s = true) (hp : PreS s H Pc (.ref b :: As))
    (hg : g.method = m) (hn : As.length = n) (hsize : g.locals.size = nL) (hstack : g.stack = As.reverse ++ .ref b :: rest) (hW : 2 * g.monitorRoom + (rest.map fun v => v.category).sum ≤ 8) (hdg : decode cc g.pc = .ok (.invokespecial index, 3)) (hf : cells + mc ≤ R.cells ∧ slots + ms ≤ R.slots) :
    vx_Run p l e R s m args below meth c H locs cells slots mc ms g rest (Qc (Value.ref b :: As).toArray) XC free := by
  obtain ⟨⟨⟨hrc, hrs, hfr, hlo, hws, hcw⟩, hcode, hini, hy, hlen, hl⟩, hx1, hx2⟩ := cw
  have hK : vx_Back l R p e below s args y 3 8 (PreOf R mc ms Pc) (PostOf Qc mc ms free) (vx_Post XC mc ms free) := vx_back (bytes := bytes) (maxL := maxL) (ret := none) hM hp.1 hrc hrs hfr hlo hws hcw (fun a' U hW => word_at hW (Or.inl (by first | rfl | simp [Cond.onTables, Cond.keeps, Cond.steady])) hini)
  obtain ⟨hx, hb, hml, ho, -⟩ := S
  have hPc := hp.2
  intro T hT X
  rcases vx_callIN X hx (bytes := bytes) (maxL := maxL) ho hx1 hl hx2 hcode hy hK hg (hsize.trans hml.symm) (a := b) (argsL := As) (rest := rest) (fun sig h => hn.trans (hlen sig h)) hstack hW (by rw [hb]; exact hdg)
    (fun vm₁ hW₁ => ⟨hf.1, hf.2, hPc (T.setVm vm₁) hT hW₁⟩) with ⟨v, vm₁, ⟨U', l2, c2, s2⟩, hW₁, X', ⟨g', mk, t, L, e1, e2, hq, h1, hL, h2, h3⟩, st⟩ | ⟨q, vm₁, ⟨U', l2, c2, s2⟩, hW₁, X', ⟨g', mk, t, L, E, ce, e1, e2, hq, hce, hcv, hcl, h1, hL, h2, h3⟩, st⟩
  · dsimp only [Pt.U, Pt.locs, Pt.cells, Pt.slots] at X' e1 e2 h1 h2 h3 st
    subst h1; subst h2; subst h3
    exact Or.inl ⟨v, (T.setVm vm₁).calling g' mk (Value.ref b :: As).toArray, t, U', L, hT, X', hL, e1, e2, hq, st⟩
  · dsimp only [Pt.U, Pt.locs, Pt.cells, Pt.slots] at X' e1 e2 h1 h2 h3 st hcl
    subst h1; subst h2; subst h3
    exact Or.inr ⟨q, (T.setVm vm₁).calling g' mk (Value.ref b :: As).toArray, t, U', L, E, ce, hT, X', hL, e1, e2, hq, hce, hcv, vx_cls hW₁ hcl, st⟩
end VXID
/-! ===== END ===== -/
end
section
/-! FIELDS, MAKING, CALLS, ENDS; THE MACHINE IS SOUND -/
section SNE
variable {p : Program} {l : Launch} {e : Env} {R : Room} {s : State} {m : MethodId} {args : Array Value} {below : List Frame} {meth : Method} {c : Code} {Q : State → Prop} {D : va_G} {dA : Nat → ClassId} {A : Nat → Prop} {xt : Nat → Option Nat} {X : rX} {M : Nat} {a0 : List Nat}
variable {pc ks ss : Nat} {ls : rL} {st : List Value} {h : rH} {g : rF}
theorem VR_ty {a : List Nat} {v w : Value} {ty : FieldType} (hv : VR xt a v w) (h1 : fits ty v = true) (h2 : narrow ty v = v) : fits ty w = true ∧ narrow ty w = w := by
  cases v with
  | ref p => obtain ⟨q, e, _⟩ := hv; rw [e]; exact ⟨fits_ref ty p q h1, narrow_ref ty p q h2⟩
  | int x => rw [show w = .int x from hv]; exact ⟨h1, h2⟩
  | long x => rw [show w = .long x from hv]; exact ⟨h1, h2⟩
  | null => rw [show w = .null from hv]; exact ⟨h1, h2⟩
  | _ => exact hv.elim
theorem go_fget {ix : Nat} (cx : CX p l R s m args meth c D dA A xt X M) (hd : decode (mb M) pc = .ok (.getfield ix, 3)) (he : fget M ix pc ls st h ks ss = some (.inl g)) (K : GO p l e R s m args below meth c Q D dA A xt a0 M g) : GO p l e R s m args below meth c Q D dA A xt a0 M (pc, ls, st, h, ks, ss) := by
  obtain ⟨⟨hx, hb, hml, hown, hts⟩, hK, hA, hR, hE, -⟩ := cx
  intro H locs cls cst ws hH hP hD hS hst hls
  unfold fget at he
  split at he
  · obtain ⟨q, c2, rfl, hv, h2⟩ := FRr hst
    split at he
    · rename_i ci kf ne hfl
      obtain ⟨hw, hcl, hkf⟩ := fldT_ok _ (asc_mem _ _ _ _ hfl)
      dsimp only at hw hcl hkf
      split at he
      · rename_i c2 fs hl
        split at he
        · rename_i hc2
          subst hc2
          split at he
          · rename_i v hfs
            unfold nx at he
            cases he
            obtain ⟨q', ce, e1, e2, ⟨gs, e3, e4⟩, -⟩ := HR_get hH hl hv
            cases e1
            subst e3
            obtain ⟨w, e5, e6⟩ := FR_get e4 _ _ hfs
            have K' := K H locs cls (w :: _) ws hH hP hD hS ⟨_, _, rfl, e6, h2⟩ hls
            cases ne with
            | true => exact va_getN (D := D) hx hb hts (inC_ok hcl) hown hK hP _ e2 hcl kf hkf (hts _ hw) (fun _ z => z) e5 hd K'
            | false => exact va_get (D := D) hx hb hts (inC_ok hcl) hown hK hP _ e2 hcl kf hkf (hts _ hw) (fun _ z => z) e5 hd K'
          · cases he
        · cases he
      · cases he
    · cases he
  · cases he
theorem go_fput {ix : Nat} (cx : CX p l R s m args meth c D dA A xt X M) (hd : decode (mb M) pc = .ok (.putfield ix, 3)) (he : fput M ix pc ls st h ks ss = some (.inl g)) (K : GO p l e R s m args below meth c Q D dA A xt a0 M g) : GO p l e R s m args below meth c Q D dA A xt a0 M (pc, ls, st, h, ks, ss) := by
  obtain ⟨⟨hx, hb, hml, hown, hts⟩, hK, hA, hR, hE, -, -, -, hnm⟩ := cx
  intro H locs cls cst ws hH hP hD hS hst hls
  unfold fput at he
  split at he
  · obtain ⟨w, c1, rfl, hvw, h1⟩ := hst
    obtain ⟨q, c2, rfl, hv, h2⟩ := FRr h1
    split at he
    · rename_i ci kf ne hfl
      obtain ⟨hw, hcl, hkf⟩ := fldT_ok _ (asc_mem _ _ _ _ hfl)
      dsimp only at hw hcl hkf
      split at he
      · rename_i c2 fs hl
        split at he
        · rename_i hcs
          obtain ⟨hc2, hkl, hfit, hnar, hne, hfin⟩ := hcs
          subst hc2
          subst hne
          unfold nx at he
          cases he
          obtain ⟨q', ce, e1, e2, ⟨gs, e3, e4⟩, -⟩ := HR_get hH hl hv
          cases e1
          subst e3
          obtain ⟨hfit', hnar'⟩ := VR_ty hvw hfit hnar
          have hgl : kf < gs.length := by rw [FR_len e4]; exact hkl
          have KK : ∀ (H1 : Heap) (locs1 : List Loc), va_P D vwCl (ws.set _ (q, .inr (c2, gs.set kf w))) H1 → va_D A (ws.set _ (q, .inr (c2, gs.set kf w))) → va_S A s.heap H1 locs1 → W p l e R s m args below meth c H1 locs1 ks ss Q (F0 m (pc + 3) cls _) := fun H1 locs1 hP1 hD1 hS1 => K H1 locs1 cls _ _ (HR_set hH e2 ⟨gs.set kf w, rfl, FR_set hvw e4 kf⟩) hP1 hD1 hS1 (by rw [adr_set e2]; exact h2) (by rw [adr_set e2]; exact hls)
          cases hf : ((clC c2).2.1 kf).2.2.2 with
          | false => exact va_put (D := D) hx hb hts (inC_ok hcl) (tyC c2) (tyC_ok hcl) (nmC_ok hcl) hown hK hP hD hS _ e2 hcl kf hkf (hts _ hw) (fun _ z => z) hf (tyC_ok hcl kf hkf) hnar' hfit' hgl hd KK
          | true => exact va_putF (D := D) hx hb hts (inC_ok hcl) (tyC c2) (tyC_ok hcl) (nmC_ok hcl) hown hK hP hD hS _ e2 hcl kf hkf (hts _ hw) (fun _ z => z) hf (hnm (hfin hf).1) (hfin hf).2 (tyC_ok hcl kf hkf) hnar' hfit' hgl hd KK
        · cases he
      · cases he
    · cases he
  · cases he
theorem go_sget {ix : Nat} (cx : CX p l R s m args meth c D dA A xt X M) (hd : decode (mb M) pc = .ok (.getstatic ix, 3)) (he : sget M ix pc ls st h ks ss = some (.inl g)) (K : GO p l e R s m args below meth c Q D dA A xt a0 M g) : GO p l e R s m args below meth c Q D dA A xt a0 M (pc, ls, st, h, ks, ss) := by
  obtain ⟨⟨hx, hb, hml, hown, hts⟩, hK, hA, hR, hE, -⟩ := cx
  intro H locs cls cst ws hH hP hD hS hst hls
  unfold sget at he
  split at he
  · rename_i ex hsl
    obtain ⟨hw, hex⟩ := staT_ok _ (asc_mem _ _ _ _ hsl)
    dsimp only at hw hex
    unfold nx at he
    cases he
    obtain ⟨q, hq, hZ⟩ := hE.2.1
    have hq' : if ex < 99999 then (ws.map (·.1))[ex]? = some q else (ex = 99999 ∨ xt ex = some q) := by
      rw [hex]
      exact Or.inr hq
    exact va_getsN hx hb hZ hS hown (hts _ hw) (fun _ z => z) hd (K H locs cls (.ref q :: _) ws hH hP hD hS ⟨_, _, rfl, ⟨q, rfl, hq'⟩, hst⟩ hls)
  · cases he
theorem dfl_V {ci : Nat} : ∀ j, j < (clC ci).2.2 → defaultValue (tyC ci j) = vp_V (dfl ci) j := fun j hj => by
  unfold vp_V dfl
  simp [hj]
theorem go_new {ix : Nat} (cx : CX p l R s m args meth c D dA A xt X M) (hd : decode (mb M) pc = .ok (.new ix, 3)) (he : newo M ix pc ls st h ks ss = some (.inl g)) (hcap : g.2.2.2.2.1 ≤ R.cells ∧ g.2.2.2.2.2 ≤ R.slots) (K : GO p l e R s m args below meth c Q D dA A xt a0 M g) : GO p l e R s m args below meth c Q D dA A xt a0 M (pc, ls, st, h, ks, ss) := by
  obtain ⟨⟨hx, hb, hml, hown, hts⟩, hK, hA, hR, hE, -⟩ := cx
  intro H locs cls cst ws hH hP hD hS hst hls
  unfold newo at he
  split at he
  · rename_i ci hcl
    obtain ⟨w1, w2, w3, hc⟩ := clsT_ok _ (asc_mem _ _ _ _ hcl)
    dsimp only at w1 w2 w3 hc
    split at he
    · rename_i hlen
      unfold nx at he
      cases he
      have hci : ci < 10 := (List.getElem?_eq_some_iff.mp hc).1
      refine va_new hx hb hts (inC_ok hc) (tyC ci) (tyC_ok hc) hown (hts _ w1) (hts _ w2) (hts _ w3) hK hP hD hS hA hc dfl_V hcap.1 hcap.2 hd fun q H1 hP1 hD1 hS1 => ?_
      have hm : (ws ++ [(q, (.inr (ci, dfl ci) : va_E))]).map (·.1) = ws.map (·.1) ++ [q] := by simp
      refine K H1 locs cls (.ref q :: _) _ (HR_push hH ⟨_, rfl, FR_ok (dfl_ok hci)⟩) hP1 hD1 hS1 ?_ ?_
      · rw [hm]
        refine ⟨_, _, rfl, ⟨q, rfl, ?_⟩, FR_mono (fun _ _ => VR_mono) hst⟩
        rw [if_pos hlen, List.getElem?_append_right (by simp [hH.1])]
        simp [hH.1]
      · rw [hm]
        exact LR_mono (fun _ _ => VR_mono) hls
    · cases he
  · split at he
    · split at he <;> cases he
    · cases he
theorem newa_dA {ws : va_W} {ty : FieldType} {t : Nat} {cA : ClassId} (hK : va_K D vwCl (tysA dA) s) (hk : (tysA dA)[t]? = some (dA t, ty)) (hn : ty = .int ∨ ty = .boolean ∨ ty = .long) (hK' : va_K D vwCl (tysA dA ++ [(cA, ty)]) s) : cA = dA t := by
  have a := (hK.2 t _ hk).2
  have b := (hK'.2 3 (cA, ty) rfl).2
  rcases hn with rfl | rfl | rfl
  · exact (Option.some.inj ((show s.vm.findClass _ = some (dA t) from a).symm.trans (show s.vm.findClass _ = some cA from b))).symm
  · exact (Option.some.inj ((show s.vm.findClass _ = some (dA t) from a).symm.trans (show s.vm.findClass _ = some cA from b))).symm
  · exact (Option.some.inj ((show s.vm.findClass _ = some (dA t) from a).symm.trans (show s.vm.findClass _ = some cA from b))).symm
theorem acW : Cond.arrayClass .int ∈ TBL ∧ Cond.arrayClass .boolean ∈ TBL ∧ Cond.arrayClass .long ∈ TBL := ⟨aci, acz, acl⟩
theorem go_newa {at9 : ArrayType} (cx : CX p l R s m args meth c D dA A xt X M) (hd : decode (mb M) pc = .ok (.newarray at9, 2)) (he : newa at9 pc ls st h ks ss = some (.inl g)) (hcap : g.2.2.2.2.1 ≤ R.cells ∧ g.2.2.2.2.2 ≤ R.slots) (K : GO p l e R s m args below meth c Q D dA A xt a0 M g) : GO p l e R s m args below meth c Q D dA A xt a0 M (pc, ls, st, h, ks, ss) := by
  obtain ⟨⟨hx, hb, hml, hown, hts⟩, hK, hA, hR, hE, -⟩ := cx
  intro H locs cls cst ws hH hP hD hS hst hls
  unfold newa at he
  split at he
  · rename_i n r
    obtain ⟨c1, rfl, h1⟩ := FRi hst
    split at he
    · cases he
    · rename_i hn
      have hn1 : ¬ n < 0 := fun z => hn (Or.inl z)
      have hn2 : n.toNatClampNeg ≤ 1000000 := by
        have := fun z => hn (Or.inr (Or.inl z))
        omega
      have hlen : h.length < 99999 := by
        have := fun z => hn (Or.inr (Or.inr z))
        omega
      have fin : ∀ (t : Nat) (x : vp_A) (q : Nat) (cA : ClassId) (H1 : Heap), cA = dA t → va_P D vwCl (ws ++ [(q, .inl (cA, x))]) H1 → va_D A (ws ++ [(q, .inl (cA, x))]) → va_S A s.heap H1 locs → GO p l e R s m args below meth c Q D dA A xt a0 M (pc + 2, ls, .ref h.length :: r, h ++ [.inl (t, x)], ks + 1, ss + n.toNatClampNeg) → W p l e R s m args below meth c H1 locs (ks + 1) (ss + n.toNatClampNeg) Q (F0 m (pc + 2) cls (.ref q :: c1)) := by
        intro t x q cA H1 hcA hP1 hD1 hS1 K'
        subst hcA
        have hm : (ws ++ [(q, (.inl (dA t, x) : va_E))]).map (·.1) = ws.map (·.1) ++ [q] := by simp
        refine K' H1 locs cls (.ref q :: _) _ (HR_push hH rfl) hP1 hD1 hS1 ?_ ?_
        · rw [hm]
          refine ⟨_, _, rfl, ⟨q, rfl, ?_⟩, FR_mono (fun _ _ => VR_mono) h1⟩
          rw [if_pos hlen, List.getElem?_append_right (by simp [hH.1])]
          simp [hH.1]
        · rw [hm]
          exact LR_mono (fun _ _ => VR_mono) hls
      split at he
      · unfold nx at he
        cases he
        refine va_newa (atype := .int) hx hb (hts _ acW.1) rfl hK hP hD hS hA (a0 := (n.toNatClampNeg, .inl fun _ => 0)) (fun _ => rfl) hn1 rfl ?_ hcap.1 hcap.2 hd fun q cA H1 hK' hP1 hD1 hS1 => fin 0 _ q cA H1 (newa_dA (ws := ws) (t := 0) hK rfl (Or.inl rfl) hK') hP1 hD1 hS1 K
        show n.toNatClampNeg * 4 ≤ _
        omega
      · unfold nx at he
        cases he
        refine va_newa (atype := .boolean) hx hb (hts _ acW.2.1) rfl hK hP hD hS hA (a0 := (n.toNatClampNeg, .inl fun _ => 0)) (fun _ => rfl) hn1 rfl ?_ hcap.1 hcap.2 hd fun q cA H1 hK' hP1 hD1 hS1 => fin 1 _ q cA H1 (newa_dA (ws := ws) (t := 1) hK rfl (Or.inr (Or.inl rfl)) hK') hP1 hD1 hS1 K
        show n.toNatClampNeg * 1 ≤ _
        omega
      · unfold nx at he
        cases he
        refine va_newa (atype := .long) hx hb (hts _ acW.2.2) rfl hK hP hD hS hA (a0 := (n.toNatClampNeg, .inr (.inl fun _ => 0))) (fun _ => rfl) hn1 rfl ?_ hcap.1 hcap.2 hd fun q cA H1 hK' hP1 hD1 hS1 => fin 2 _ q cA H1 (newa_dA (ws := ws) (t := 2) hK rfl (Or.inr (Or.inr rfl)) hK') hP1 hD1 hS1 K
        show n.toNatClampNeg * 8 ≤ _
        omega
      · cases he
  · cases he
theorem go_obj {ix : Nat} (cx : CX p l R s m args meth c D dA A xt X M) (hd : decode (mb M) pc = .ok (.invokespecial ix, 3)) (he : invI M ix pc ls st h ks ss = some (.inl g)) (K : GO p l e R s m args below meth c Q D dA A xt a0 M g) : GO p l e R s m args below meth c Q D dA A xt a0 M (pc, ls, st, h, ks, ss) := by
  obtain ⟨⟨hx, hb, hml, hown, hts⟩, hK, hA, hR, hE, -⟩ := cx
  intro H locs cls cst ws hH hP hD hS hst hls
  unfold invI at he
  split at he
  · rename_i hob
    have hw := objT_ok _ (asc_mem _ _ _ _ hob)
    dsimp only at hw
    split at he
    · split at he
      · rename_i hr
        unfold nx at he
        cases he
        obtain ⟨q, c2, rfl, hv, h2⟩ := FRr hst
        obtain ⟨h0, lv, h1, h3⟩ := id hls
        refine W.objInit hx hb hown (hts _ hw) (hts _ objI) (hts _ objC) rfl (by rw [hml]; exact h1.1) rfl hd (Nat.le_trans hr.1 hR.1) ?_ (W.eq (g2 := F0 m (pc + 3) cls c2) rfl (K H locs cls c2 ws hH hP hD hS h2 hls))
        show 2 * 0 + _ + 12 ≤ _
        rw [FR_cat h2]
        have := hr.2
        have := hR.2
        omega
      · cases he
    · cases he
  · split at he
    · split at he
      · split at he <;> cases he
      · cases he
    · cases he
end SNE
end
section
/-! ANY STEP -/
section SNG
variable {p : Program} {l : Launch} {e : Env} {R : Room} {s : State} {m : MethodId} {args : Array Value} {below : List Frame} {meth : Method} {c : Code} {Q : State → Prop} {D : va_G} {dA : Nat → ClassId} {A : Nat → Prop} {xt : Nat → Option Nat} {X : rX} {M : Nat} {a0 : List Nat}
variable {pc ks ss : Nat} {ls : rL} {st : List Value} {h : rH} {g : rF}
theorem go_iinc {i : Nat} {n : Int} (cx : CX p l R s m args meth c D dA A xt X M) (hd : decode (mb M) pc = .ok (.iinc i n, 3)) (he : (match ls[i]? with
    | some (some (.int x)) => nx (pc + 3) (ls.set i (some (.int (x + Int32.ofInt n)))) st h ks ss
    | _ => none) = some (.inl g)) (K : GO p l e R s m args below meth c Q D dA A xt a0 M g) : GO p l e R s m args below meth c Q D dA A xt a0 M (pc, ls, st, h, ks, ss) := by
  obtain ⟨⟨hx, hb, hml, hown, hts⟩, -⟩ := cx
  intro H locs cls cst ws hH hP hD hS hst hls
  split at he
  · rename_i x hxi
    unfold nx at he
    cases he
    obtain ⟨h0, lv, h1, h3⟩ := hls
    obtain ⟨w, h4, h5, h6⟩ := h3 i _ hxi
    have h7 : w = .int x := h4
    subst h7
    obtain ⟨k, hk⟩ := List.getElem?_of_mem h6
    have hi : i < ml M := by rw [← h0]; exact (List.getElem?_eq_some_iff.mp hxi).1
    exact lv_iinc hx hb hd h1 hk rfl hi rfl (fun cls' h' => K H locs cls' _ ws hH hP hD hS hst (LR_set h0 h3 rfl rfl h'))
  · cases he
theorem inc_none {α β : Type} {x : α} (h : (none : Option (α ⊕ β)) = some (.inl x)) {P : Prop} : P := by cases h
theorem go_step (cx : CX p l R s m args meth c D dA A xt X M) (he : stepM X M (pc, ls, st, h, ks, ss) = some (.inl g)) (hcap : g.2.2.2.2.1 ≤ R.cells ∧ g.2.2.2.2.2 ≤ R.slots) (K : GO p l e R s m args below meth c Q D dA A xt a0 M g) : GO p l e R s m args below meth c Q D dA A xt a0 M (pc, ls, st, h, ks, ss) := by
  have hx := cx.1.1
  have hb := cx.1.2.1
  have hown := cx.1.2.2.2.1
  have hts := cx.1.2.2.2.2
  unfold stepM at he
  dsimp only at he
  split at he
  · rename_i i len hd
    split at he
    · rename_i hk
      cases i
      case iconst n =>
        cases eq_of_beq (show (len == 1) = true from hk)
        exact go_psh (v := .int (Int32.ofInt n)) rfl (fun k => lv_iconst hx hb hd rfl k) he K
      case bipush n =>
        cases eq_of_beq (show (len == 2) = true from hk)
        exact go_psh (v := .int (Int8.ofInt n).toInt32) rfl (fun k => lv_bipush hx hb hd rfl k) he K
      case sipush n =>
        cases eq_of_beq (show (len == 3) = true from hk)
        exact go_psh (v := .int (Int16.ofInt n).toInt32) rfl (fun k => lv_sipush hx hb hd rfl k) he K
      case ldc ix =>
        cases eq_of_beq (show (len == 2) = true from hk)
        dsimp only [stepI] at he
        split at he
        · rename_i v hv
          exact go_psh (v := .int v) rfl (fun k => lv_ldc hx hb hown (hts _ (cstT_ok _ (asc_mem _ _ _ _ hv))) hd k) he K
        · cases he
      case ldc_w ix =>
        cases eq_of_beq (show (len == 3) = true from hk)
        dsimp only [stepI] at he
        split at he
        · rename_i v hv
          exact go_psh (v := .int v) rfl (fun k => lv_ldcw hx hb hown (hts _ (cstT_ok _ (asc_mem _ _ _ _ hv))) hd k) he K
        · cases he
      case iload_n i =>
        cases eq_of_beq (show (len == 1) = true from hk)
        exact go_ldI (fun h1 k => lv_iload_n hx hb hd rfl h1 k) he K
      case iload i =>
        cases eq_of_beq (show (len == 2) = true from hk)
        exact go_ldI (fun h1 k => lv_iload hx hb hd h1 k) he K
      case aload_n i =>
        cases eq_of_beq (show (len == 1) = true from hk)
        exact go_ldA (fun h1 k => lv_aload_n hx hb hd rfl h1 k) he K
      case aload i =>
        cases eq_of_beq (show (len == 2) = true from hk)
        exact go_ldA (fun h1 k => lv_aload hx hb hd h1 k) he K
      case istore_n i =>
        cases eq_of_beq (show (len == 1) = true from hk)
        exact go_stI (fun h1 h2 h3 k => lv_istore_n hx hb hd rfl h1 h2 h3 k) he K
      case istore i =>
        cases eq_of_beq (show (len == 2) = true from hk)
        exact go_stI (fun h1 h2 h3 k => lv_istore hx hb hd h1 h2 h3 k) he K
      case astore_n i =>
        cases eq_of_beq (show (len == 1) = true from hk)
        exact go_stA (fun h1 h2 h3 k => lv_astore_n hx hb hd rfl h1 h2 h3 k) he K
      case astore i =>
        cases eq_of_beq (show (len == 2) = true from hk)
        exact go_stA (fun h1 h2 h3 k => lv_astore hx hb hd h1 h2 h3 k) he K
      case iinc i n =>
        cases eq_of_beq (show (len == 3) = true from hk)
        exact go_iinc cx hd he K
      case iadd =>
        cases eq_of_beq (show (len == 1) = true from hk)
        exact go_bin (fun k => lv_iadd hx hb hd k) he K
      case isub =>
        cases eq_of_beq (show (len == 1) = true from hk)
        exact go_bin (fun k => lv_isub hx hb hd k) he K
      case imul =>
        cases eq_of_beq (show (len == 1) = true from hk)
        exact go_bin (fun k => lv_imul hx hb hd k) he K
      case iand =>
        cases eq_of_beq (show (len == 1) = true from hk)
        exact go_bin (fun k => lv_iand hx hb hd k) he K
      case ixor =>
        cases eq_of_beq (show (len == 1) = true from hk)
        exact go_bin (fun k => lv_ixor hx hb hd k) he K
      case idiv =>
        cases eq_of_beq (show (len == 1) = true from hk)
        intro H locs cls cst ws hH hP hD hS hst hls
        dsimp only [stepI] at he
        split at he
        · split at he
          · cases he
          · rename_i hy
            unfold nx at he
            cases he
            obtain ⟨c1, rfl, h1⟩ := FRi hst
            obtain ⟨c2, rfl, h2⟩ := FRi h1
            exact lv_idiv hx hb hd hy (K H locs cls _ ws hH hP hD hS ⟨_, _, rfl, rfl, h2⟩ hls)
        · cases he
      case ineg =>
        cases eq_of_beq (show (len == 1) = true from hk)
        intro H locs cls cst ws hH hP hD hS hst hls
        dsimp only [stepI] at he
        split at he
        · unfold nx at he
          cases he
          obtain ⟨c1, rfl, h1⟩ := FRi hst
          exact lv_ineg hx hb hd (K H locs cls _ ws hH hP hD hS ⟨_, _, rfl, rfl, h1⟩ hls)
        · cases he
      case i2l =>
        cases eq_of_beq (show (len == 1) = true from hk)
        intro H locs cls cst ws hH hP hD hS hst hls
        dsimp only [stepI] at he
        split at he
        · unfold nx at he
          cases he
          obtain ⟨c1, rfl, h1⟩ := FRi hst
          exact lv_i2l hx hb hd rfl (K H locs cls _ ws hH hP hD hS ⟨_, _, rfl, rfl, h1⟩ hls)
        · cases he
      case lcmp =>
        cases eq_of_beq (show (len == 1) = true from hk)
        intro H locs cls cst ws hH hP hD hS hst hls
        dsimp only [stepI] at he
        split at he
        · unfold nx at he
          cases he
          obtain ⟨c1, rfl, h1⟩ := FRl hst
          obtain ⟨c2, rfl, h2⟩ := FRl h1
          exact W.lcmp hx hb hd (K H locs cls _ ws hH hP hD hS ⟨_, _, rfl, rfl, h2⟩ hls)
        · cases he
      case dup =>
        cases eq_of_beq (show (len == 1) = true from hk)
        intro H locs cls cst ws hH hP hD hS hst hls
        dsimp only [stepI] at he
        split at he
        · unfold nx at he
          cases he
          obtain ⟨c1, rfl, h1⟩ := FRi hst
          exact lv_dup hx hb hd rfl (K H locs cls _ ws hH hP hD hS ⟨_, _, rfl, rfl, ⟨_, _, rfl, rfl, h1⟩⟩ hls)
        · unfold nx at he
          cases he
          obtain ⟨q, c1, rfl, hv, h1⟩ := FRr hst
          exact lv_dup hx hb hd rfl (K H locs cls _ ws hH hP hD hS ⟨_, _, rfl, hv, ⟨_, _, rfl, hv, h1⟩⟩ hls)
        · cases he
      case dup2 =>
        cases eq_of_beq (show (len == 1) = true from hk)
        intro H locs cls cst ws hH hP hD hS hst hls
        dsimp only [stepI] at he
        split at he
        · unfold nx at he
          cases he
          obtain ⟨c1, rfl, h1⟩ := FRi hst
          obtain ⟨q, c2, rfl, hv, h2⟩ := FRr h1
          exact lv_dup2_11 hx hb hd rfl rfl (K H locs cls _ ws hH hP hD hS ⟨_, _, rfl, rfl, ⟨_, _, rfl, hv, ⟨_, _, rfl, rfl, ⟨_, _, rfl, hv, h2⟩⟩⟩⟩ hls)
        · cases he
      case ifCond cc o =>
        cases eq_of_beq (show (len == 3) = true from hk)
        cases cc
        · exact go_icm0 (fun ht kt kf => lv_if_eq hx hb hd ht (fun z => kt (decide_eq_true z)) (fun z => kf (decide_eq_false z))) he K
        · exact go_icm0 (fun ht kt kf => lv_if_ne hx hb hd ht (fun z => kt (decide_eq_true z)) (fun z => kf (decide_eq_false (fun n => n z)))) he K
        · exact go_icm0 (fun ht kt kf => lv_if_lt hx hb hd ht (fun z => kt (decide_eq_true z)) (fun z => kf (decide_eq_false z))) he K
        · exact go_icm0 (fun ht kt kf => lv_if_ge hx hb hd ht (fun z => kt (decide_eq_true z)) (fun z => kf (decide_eq_false z))) he K
        · exact go_icm0 (fun ht kt kf => lv_if_gt hx hb hd ht (fun z => kt (decide_eq_true z)) (fun z => kf (decide_eq_false z))) he K
        · exact go_icm0 (fun ht kt kf => lv_if_le hx hb hd ht (fun z => kt (decide_eq_true z)) (fun z => kf (decide_eq_false z))) he K
      case if_icmp cc o =>
        cases eq_of_beq (show (len == 3) = true from hk)
        cases cc
        · exact go_icmp (fun ht kt kf => lv_icmp_eq hx hb hd ht (fun z => kt (decide_eq_true z)) (fun z => kf (decide_eq_false z))) he K
        · exact go_icmp (fun ht kt kf => lv_icmp_ne hx hb hd ht (fun z => kt (decide_eq_true z)) (fun z => kf (decide_eq_false (fun n => n z)))) he K
        · exact go_icmp (fun ht kt kf => lv_icmp_lt hx hb hd ht (fun z => kt (decide_eq_true z)) (fun z => kf (decide_eq_false z))) he K
        · exact go_icmp (fun ht kt kf => lv_icmp_ge hx hb hd ht (fun z => kt (decide_eq_true z)) (fun z => kf (decide_eq_false z))) he K
        · exact go_icmp (fun ht kt kf => lv_icmp_gt hx hb hd ht (fun z => kt (decide_eq_true z)) (fun z => kf (decide_eq_false z))) he K
        · exact go_icmp (fun ht kt kf => lv_icmp_le hx hb hd ht (fun z => kt (decide_eq_true z)) (fun z => kf (decide_eq_false z))) he K
      case goto o =>
        cases eq_of_beq (show (len == 3) = true from hk)
        intro H locs cls cst ws hH hP hD hS hst hls
        dsimp only [stepI] at he
        split at he
        · rename_i ht
          unfold nx at he
          cases he
          exact lv_goto hx hb hd (tgt_spec ht) (K H locs cls _ ws hH hP hD hS hst hls)
        · cases he
      case tableswitch d lo hi offs =>
        intro H locs cls cst ws hH hP hD hS hst hls
        dsimp only [stepI, tsw] at he
        split at he
        · obtain ⟨c1, rfl, h1⟩ := FRi hst
          split at he
          · rename_i hlh
            split at he
            · rename_i ht
              unfold nx at he
              cases he
              exact lv_tableOut hx hb hd hlh (tgt_spec ht) (K H locs cls _ ws hH hP hD hS h1 hls)
            · cases he
          · rename_i hlh
            split at he
            · rename_i off hoff
              split at he
              · rename_i ht
                unfold nx at he
                cases he
                exact lv_tableIn hx hb hd (fun z => hlh (Or.inl z)) (fun z => hlh (Or.inr z)) hoff (tgt_spec ht) (K H locs cls _ ws hH hP hD hS h1 hls)
              · cases he
            · cases he
        · cases he
      case iaload =>
        cases eq_of_beq (show (len == 1) = true from hk)
        exact go_aget cx hd he K
      case baload =>
        cases eq_of_beq (show (len == 1) = true from hk)
        exact go_agetZ cx hd he K
      case laload =>
        cases eq_of_beq (show (len == 1) = true from hk)
        exact go_agetL cx hd he K
      case iastore =>
        cases eq_of_beq (show (len == 1) = true from hk)
        exact go_aput cx hd he K
      case bastore =>
        cases eq_of_beq (show (len == 1) = true from hk)
        exact go_aputZ cx hd he K
      case lastore =>
        cases eq_of_beq (show (len == 1) = true from hk)
        exact go_aputL cx hd he K
      case arraylength =>
        cases eq_of_beq (show (len == 1) = true from hk)
        exact go_alen cx hd he K
      case getfield ix =>
        cases eq_of_beq (show (len == 3) = true from hk)
        exact go_fget cx hd he K
      case putfield ix =>
        cases eq_of_beq (show (len == 3) = true from hk)
        exact go_fput cx hd he K
      case getstatic ix =>
        cases eq_of_beq (show (len == 3) = true from hk)
        exact go_sget cx hd he K
      case new ix =>
        cases eq_of_beq (show (len == 3) = true from hk)
        exact go_new cx hd he hcap K
      case newarray t =>
        cases eq_of_beq (show (len == 2) = true from hk)
        exact go_newa cx hd he hcap K
      case invokespecial ix =>
        cases eq_of_beq (show (len == 3) = true from hk)
        exact go_obj cx hd he K
      case invokestatic ix =>
        dsimp only [stepI, invS] at he
        split at he
        · split at he <;> cases he
        · cases he
      case invokevirtual ix =>
        dsimp only [stepI, invV] at he
        split at he
        · split at he
          · split at he
            · split at he <;> cases he
            · cases he
          · cases he
        · cases he
      case ireturn =>
        dsimp only [stepI, retI, done] at he
        split at he
        · split at he
          · split at he <;> cases he
          · cases he
        · cases he
      case areturn =>
        dsimp only [stepI, retA, done] at he
        split at he
        · split at he <;> cases he
        · cases he
      case return_ =>
        dsimp only [stepI, retV, done] at he
        split at he
        · split at he <;> cases he
        · cases he
      all_goals exact inc_none he
    · cases he
  · cases he
end SNG
end
section
/-! CALLS AND ENDS: what the machine computes of a method is its contract -/
section SNC
variable {p : Program} {l : Launch} {e : Env} {R : Room} {s : State} {m : MethodId} {args : Array Value} {below : List Frame} {meth : Method} {c : Code} {Q : State → Prop} {D : va_G} {dA : Nat → ClassId} {A : Nat → Prop} {xt : Nat → Option Nat} {X : rX} {M : Nat} {a0 : List Nat}
variable {pc ks ss : Nat} {ls : rL} {st : List Value} {h : rH} {g : rF}
def PU (D : va_G) (dA : Nat → ClassId) (xt : Nat → Option Nat) (X : rX) (ws : va_W) (sz : Nat) (U : State) : Prop := U.heap.size = sz ∧ va_P D vwCl ws U.heap ∧ va_K D vwCl (tysA dA) U ∧ va_D (fun _ => True) ws ∧ EXT X xt (va_A ws sz) U U.heap
def OR (xt : Nat → Option Nat) (a : List Nat) (v w : Option Value) : Prop := match v with
  | none => w = none
  | some v => ∃ w', w = some w' ∧ VR xt a v w'
def WU (D : va_G) (dA : Nat → ClassId) (xt : Nat → Option Nat) (ws : va_W) (sz : Nat) (h' : rH) (ws' : va_W) (t : State) : Prop := HR xt dA (ws.map (·.1)) h' ws' ∧ va_P D vwCl ws' t.heap ∧ va_D (va_A ws sz) ws'
def QU (D : va_G) (dA : Nat → ClassId) (xt : Nat → Option Nat) (ws : va_W) (sz : Nat) (r : rR) : Array Value → State → Outcome → State → Prop := fun _ st oc t => (∃ (v w : Option Value) (ws' : va_W), r.1 = .inl v ∧ oc = .returned w ∧ OR xt (ws'.map (·.1)) v w ∧ WU D dA xt ws sz r.2.1 ws' t) ∧ va_F (va_A ws sz) st t
def XU (D : va_G) (dA : Nat → ClassId) (xt : Nat → Option Nat) (ws : va_W) (sz : Nat) (r : rR) : String → State → State → Prop := fun E st t => (∃ (n : Nat) (ws' : va_W), r.1 = .inr n ∧ n < 3 ∧ E = en n ∧ WU D dA xt ws sz r.2.1 ws' t) ∧ va_F (va_A ws sz) st t
def rmy (y : Nat) (r : rR) : Room := { frames := fr y, cells := r.2.2.1, slots := r.2.2.2, locals := lo y }
def CON (l : Launch) (X : rX) (y : Nat) (as : List Value) (h : rH) (r : rR) : Prop := ∀ (D : va_G) (dA : Nat → ClassId) (xt : Nat → Option Nat) (ws : va_W) (cas : List Value) (sz : Nat), HR xt dA (ws.map (·.1)) h ws → FR (VR xt (ws.map (·.1))) as cas →
  vx_Met l (my y) (codeW y :: TBL) (rmy y r) (va_Pc cas (PU D dA xt X ws sz)) (QU D dA xt ws sz r) (XU D dA xt ws sz r) r.2.2.1 r.2.2.2 (va_A ws sz)
theorem free_A {ws : va_W} {H : Heap} {locs : List Loc} (hA : ∀ q : Nat, s.heap.size ≤ q → A q) (hD : va_D A ws) (hS : va_S A s.heap H locs) : ∀ q : Nat, va_A ws H.size q → A q := by
  intro q hq
  rcases hq with ⟨k, e, hk⟩ | hq
  · exact hD.2 k (q, e) hk
  · exact hA q (Nat.le_trans hS.1 hq)
theorem HR_tr {h h' : rH} {ws ws' : va_W} (H1 : HR xt dA a0 h ws) (H2 : HR xt dA (ws.map (·.1)) h' ws') : HR xt dA a0 h' ws' := by
  refine ⟨H2.1, H2.2.1, ?_⟩
  obtain ⟨b, hb⟩ := H1.2.2
  obtain ⟨b', hb'⟩ := H2.2.2
  exact ⟨b ++ b', by rw [hb', hb, List.append_assoc]⟩
theorem run_el {av : Array Value} {r : rR} {H : Heap} {locs : List Loc} {cls : Array Slot} {cst crest : List Value} {ws : va_W} (hA : ∀ q : Nat, s.heap.size ≤ q → A q) (hD : va_D A ws) (hS : va_S A s.heap H locs) (hH : HR xt dA a0 h ws)
    (hr : vx_Run p l e R s m args below meth c H locs ks ss r.2.2.1 r.2.2.2 (F0 m pc cls cst) crest (QU D dA xt ws H.size r av) (XU D dA xt ws H.size r) (va_A ws H.size))
    (kk : ∀ (v w : Option Value) (ws' : va_W) (H1 : Heap) (locs1 : List Loc), r.1 = .inl v → OR xt (ws'.map (·.1)) v w → HR xt dA a0 r.2.1 ws' → (∃ b, ws'.map (·.1) = ws.map (·.1) ++ b) → va_P D vwCl ws' H1 → va_D A ws' → va_S A s.heap H1 locs1 → W p l e R s m args below meth c H1 locs1 (ks + r.2.2.1) (ss + r.2.2.2) Q (F0 m (pc + 3) cls (w.toList ++ crest)))
    (kx : ∀ (n : Nat) (ws' : va_W) (H1 : Heap) (locs1 : List Loc) (q : Nat) (ce : Cell), r.1 = .inr n → n < 3 → HR xt dA a0 r.2.1 ws' → (∃ b, ws'.map (·.1) = ws.map (·.1) ++ b) → va_P D vwCl ws' H1 → va_D A ws' → va_S A s.heap H1 locs1 → H1[q]? = some ce → ce.vm = .none → s.vm.findClass (en n) = some ce.cls → vx_W p l e R s m args below meth c H1 locs1 (ks + r.2.2.1) (ss + r.2.2.2) Q (F0 m pc cls crest) q) :
    W p l e R s m args below meth c H locs ks ss Q (F0 m pc cls cst) := by
  have hf := free_A hA hD hS
  intro T hT Y
  rcases hr T hT Y with ⟨v9, st₀, t, T', L, h0, X', hL, e1, e2, ⟨⟨v, w, ws', h1, h2, h3, h4, h5, h6⟩, hF⟩, st⟩ | ⟨q, st₀, t, T', L, E, ce, h0, X', hL, e1, e2, ⟨⟨n, ws', h1, hn, rfl, h4, h5, h6⟩, hF⟩, hce, hcv, hcl, st⟩
  · cases h2
    obtain ⟨-, -, k3⟩ := vx_keep h0 e1 hS (fun q _ hq => hf q hq) hf hL hF
    obtain ⟨t2, a1, b1⟩ := kk v v9 ws' T'.heap (locs ++ L) h1 h3 (HR_tr hH h4) h4.2.2 (by rw [e1]; exact h5) (h6.weaken (fun _ _ _ hq => hf _ hq)) k3 T' rfl X'
    exact ⟨t2, st t2 a1, b1⟩
  · obtain ⟨-, -, k3⟩ := vx_keep h0 e1 hS (fun q _ hq => hf q hq) hf hL hF
    obtain ⟨t2, a1, b1⟩ := kx n ws' T'.heap (locs ++ L) q ce h1 hn (HR_tr hH h4) h4.2.2 (by rw [e1]; exact h5) (h6.weaken (fun _ _ _ hq => hf _ hq)) k3 (by rw [e1]; exact hce) hcv hcl T' rfl X'
    exact ⟨t2, st.trans a1, b1⟩
/-- the callee's start, at the call -/
theorem pre_PU {ws : va_W} {H : Heap} {locs : List Loc} (cx : CX p l R s m args meth c D dA A xt X M) (hP : va_P D vwCl ws H) (hD : va_D A ws) (hS : va_S A s.heap H locs) (cas : List Value) : FrameBlind (va_Pc cas (PU D dA xt X ws H.size)) ∧ ∀ U : State, U.heap = H → s.WarmedH U.vm → va_Pc cas (PU D dA xt X ws H.size) cas.toArray U := by
  obtain ⟨-, hK, hA, -, hE, -⟩ := cx
  refine ⟨fun a U g mk hq => ?_, fun U hU hW => ⟨rfl, by rw [hU], by rw [hU]; exact hP, va_K.moved hW.alike hK, hD.weaken (fun _ _ _ _ => trivial), ?_⟩⟩
  · obtain ⟨q0, q1, qP, qK, qD, qE⟩ := hq
    exact ⟨q0, q1, qP, va_K.moved (u := U) (U := U.calling g mk a) (Vm.Alike.refl U.vm) qK, qD, EXT.same (u := U) (U := U.calling g mk a) rfl qE⟩
  · rw [hU]
    exact EXT.to hW (fun q h1 h2 => hS.2.1 q h1 h2) (free_A hA hD hS) hE
theorem codeW_in {y : Nat} (hy : MF y) {args : Array Value} {s : State} (hts : ∀ w ∈ TBL, w.before args s = true) : ∀ w ∈ codeW y :: TBL, ∀ (a' : Array Value) (U : State), s.WarmedH U.vm → w.before a' U = true := by
  intro w hw a' U hW
  rcases List.mem_cons.mp hw with rfl | hw
  · exact TBL_at hts hW _ hy.1
  · exact TBL_at hts hW _ hw
theorem codeW_nil {y : Nat} (h : mh y = []) : codeW y = .code (my y) (mb y) (ml y) (mr y) := by
  unfold codeW
  rw [h]
theorem codeW_cons {y : Nat} {q : Nat × Nat × Nat × Nat} {t : List (Nat × Nat × Nat × Nat)} (h : mh y = q :: t) : codeW y = .codeWith (my y) (mb y) (ml y) (mr y) (mh y) := by
  unfold codeW
  rw [h]
theorem na_of {y : Nat} (hy : MF y) : ∀ sig, parseMethodDescriptor (my y).desc = some sig → mna y = sig.parameters.length := by
  intro sig hs
  have h2 := hy.2.2.2.2.2.2.2
  rw [hs] at h2
  exact (Option.some.inj h2).symm
theorem run_S {ix y : Nat} {r : rR} {H : Heap} {locs : List Loc} {cls : Array Slot} {cst As crest : List Value} {ws : va_W} (cx : CX p l R s m args meth c D dA A xt X M) (hD : va_D A ws) (hP : va_P D vwCl ws H) (hS : va_S A s.heap H locs) (hsz : cls.size = ml M)
    (hd : decode (mb M) pc = .ok (.invokestatic ix, 3)) (hmy : MF y) (hlink : Cond.methodLink (rn (ow M)) ix (my y) ∈ TBL) (hst : mst y = true) (hfr : fr y + 1 ≤ fr M) (hlo : 8 + (ml y + 11) + lo y ≤ lo M) (hn : As.length = mna y) (hstk : cst = As.reverse ++ crest) (hvc : (crest.map fun v => v.category).sum ≤ 8) (hcap : ks + r.2.2.1 ≤ R.cells ∧ ss + r.2.2.2 ≤ R.slots)
    (hM : vx_Met l (my y) (codeW y :: TBL) (rmy y r) (va_Pc As (PU D dA xt X ws H.size)) (QU D dA xt ws H.size r) (XU D dA xt ws H.size r) r.2.2.1 r.2.2.2 (va_A ws H.size)) :
    vx_Run p l e R s m args below meth c H locs ks ss r.2.2.1 r.2.2.2 (F0 m pc cls cst) crest (QU D dA xt ws H.size r As.toArray) (XU D dA xt ws H.size r) (va_A ws H.size) := by
  have hts := cx.1.2.2.2.2
  have hR := cx.2.2.2.1
  have b1 : (rmy y r).frames + 1 ≤ R.frames := Nat.le_trans hfr hR.1
  have b2 : 8 + (ml y + 11) + (rmy y r).locals ≤ R.locals := Nat.le_trans hlo hR.2
  rcases hh : mh y with _ | ⟨q, t⟩
  · exact vx_runS cx.1 hM ⟨⟨rfl, rfl, b1, b2, codeW_in hmy hts, by rw [codeW_nil hh]; exact List.mem_cons_self, by rw [← codeW_nil hh]; exact hts _ hmy.1, hts _ hmy.2.1, hmy.2.2.2.2.2.2.1, na_of hmy, hts _ hlink⟩, hts _ (hmy.2.2.1 hst)⟩ (pre_PU cx hP hD hS As) rfl hn hsz hstk (lv_room hvc) hd hcap
  · exact vx_runSX (hh := mh y) cx.1 hM ⟨⟨rfl, rfl, b1, b2, codeW_in hmy hts, by rw [← codeW_cons hh]; exact List.mem_cons_self⟩, by rw [← codeW_cons hh]; exact hts _ hmy.1, hts _ hmy.2.1, hmy.2.2.2.2.2.2.1, na_of hmy, hts _ hlink, hts _ (hmy.2.2.1 hst)⟩ (pre_PU cx hP hD hS As) rfl hn hsz hstk (lv_room hvc) hd hcap
theorem run_V {ix y b pa : Nat} {fs : List Value} {r : rR} {H : Heap} {locs : List Loc} {cls : Array Slot} {cst As crest : List Value} {ws : va_W} (cx : CX p l R s m args meth c D dA A xt X M) (hD : va_D A ws) (hP : va_P D vwCl ws H) (hS : va_S A s.heap H locs) (hsz : cls.size = ml M)
    (hd : decode (mb M) pc = .ok (.invokevirtual ix, 3)) (hmy : MF y) (hlink : Cond.methodLink (rn (ow M)) ix (my y) ∈ TBL) (hst : mst y = false) (hni : (my y).name ≠ "<init>") (hnh : mh y = []) (how : ow y < 10) (hrec : ws[pa]? = some (b, .inr (ow y, fs))) (hfr : fr y + 1 ≤ fr M) (hlo : 8 + (ml y + 11) + lo y ≤ lo M) (hn : As.length = mna y) (hstk : cst = As.reverse ++ .ref b :: crest) (hvc : (crest.map fun v => v.category).sum ≤ 8) (hcap : ks + r.2.2.1 ≤ R.cells ∧ ss + r.2.2.2 ≤ R.slots)
    (hM : vx_Met l (my y) (codeW y :: TBL) (rmy y r) (va_Pc (.ref b :: As) (PU D dA xt X ws H.size)) (QU D dA xt ws H.size r) (XU D dA xt ws H.size r) r.2.2.1 r.2.2.2 (va_A ws H.size)) :
    vx_Run p l e R s m args below meth c H locs ks ss r.2.2.1 r.2.2.2 (F0 m pc cls cst) crest (QU D dA xt ws H.size r (Value.ref b :: As).toArray) (XU D dA xt ws H.size r) (va_A ws H.size) := by
  have hts := cx.1.2.2.2.2
  have hR := cx.2.2.2.1
  have b1 : (rmy y r).frames + 1 ≤ R.frames := Nat.le_trans hfr hR.1
  have b2 : 8 + (ml y + 11) + (rmy y r).locals ≤ R.locals := Nat.le_trans hlo hR.2
  obtain ⟨hi1, hi2⟩ := hmy.2.2.2.1 hst
  have hse := hts _ (hi2.resolve_left hni)
  obtain ⟨hcl, hcn⟩ := rn_cl how
  have hrcv := va_recv cx.2.1 hP hcl hrec
  have hcls : (my y).cls = (clC (ow y)).1 := hmy.2.2.2.2.2.1.trans hcn.symm
  rw [← hcls] at hrcv
  have hpre := pre_PU cx hP hD hS (.ref b :: As)
  exact vx_runV cx.1 hM ⟨⟨rfl, rfl, b1, b2, codeW_in hmy hts, by rw [codeW_nil hnh]; exact List.mem_cons_self, by rw [← codeW_nil hnh]; exact hts _ hmy.1, hts _ hmy.2.1, hmy.2.2.2.2.2.2.1, na_of hmy, hts _ hlink⟩, hts _ hi1, hse⟩ ⟨hpre.1, hrcv, hpre.2⟩ rfl hn hsz hstk (lv_room hvc) hd hcap
theorem run_I {ix y b : Nat} {ne : Bool} {r : rR} {H : Heap} {locs : List Loc} {cls : Array Slot} {cst As crest : List Value} {ws : va_W} (cx : CX p l R s m args meth c D dA A xt X M) (hD : va_D A ws) (hP : va_P D vwCl ws H) (hS : va_S A s.heap H locs) (hsz : cls.size = ml M)
    (hd : decode (mb M) pc = .ok (.invokespecial ix, 3)) (hmy : MF y) (hlink : mthW (ow M, ix, y, ne) ∈ TBL) (hst : mst y = false) (hni : (my y).name = "<init>") (hnr : mr y = none) (hnh : mh y = []) (hfr : fr y + 1 ≤ fr M) (hlo : 8 + (ml y + 11) + lo y ≤ lo M) (hn : As.length = mna y) (hstk : cst = As.reverse ++ .ref b :: crest) (hvc : (crest.map fun v => v.category).sum ≤ 8) (hcap : ks + r.2.2.1 ≤ R.cells ∧ ss + r.2.2.2 ≤ R.slots)
    (hM : vx_Met l (my y) (codeW y :: TBL) (rmy y r) (va_Pc (.ref b :: As) (PU D dA xt X ws H.size)) (QU D dA xt ws H.size r) (XU D dA xt ws H.size r) r.2.2.1 r.2.2.2 (va_A ws H.size)) :
    vx_Run p l e R s m args below meth c H locs ks ss r.2.2.1 r.2.2.2 (F0 m pc cls cst) crest (QU D dA xt ws H.size r (Value.ref b :: As).toArray) (XU D dA xt ws H.size r) (va_A ws H.size) := by
  have hts := cx.1.2.2.2.2
  have hR := cx.2.2.2.1
  have b1 : (rmy y r).frames + 1 ≤ R.frames := Nat.le_trans hfr hR.1
  have b2 : 8 + (ml y + 11) + (rmy y r).locals ≤ R.locals := Nat.le_trans hlo hR.2
  obtain ⟨hi1, -⟩ := hmy.2.2.2.1 hst
  have hpre := pre_PU cx hP hD hS (.ref b :: As)
  have hcw : codeW y = .code (my y) (mb y) (ml y) none := by rw [codeW_nil hnh, hnr]
  cases ne with
  | false => exact vx_runI cx.1 hM ⟨⟨rfl, rfl, b1, b2, codeW_in hmy hts, by rw [hcw]; exact List.mem_cons_self, by rw [← hcw]; exact hts _ hmy.1, hts _ hmy.2.1, hmy.2.2.2.2.2.2.1, na_of hmy, hts _ hlink⟩, hni, hts _ hi1⟩ hpre rfl hn hsz hstk (lv_room hvc) hd hcap
  | true => exact vx_runIN cx.1 hM ⟨⟨⟨rfl, rfl, b1, b2, codeW_in hmy hts, by rw [hcw]; exact List.mem_cons_self⟩, by rw [← hcw]; exact hts _ hmy.1, hts _ hmy.2.1, hmy.2.2.2.2.2.2.1, na_of hmy, hts _ hlink⟩, hni, hts _ hi1⟩ hpre rfl hn hsz hstk (lv_room hvc) hd hcap
end SNC
end
section
/-! WHICH STEPS CALL, WHICH END -/
section SNF
variable {p : Program} {l : Launch} {e : Env} {R : Room} {s : State} {m : MethodId} {args : Array Value} {below : List Frame} {meth : Method} {c : Code} {Q : State → Prop} {D : va_G} {dA : Nat → ClassId} {A : Nat → Prop} {xt : Nat → Option Nat} {X : rX} {M : Nat} {a0 : List Nat}
variable {pc ks ss : Nat} {ls : rL} {st : List Value} {h : rH} {g : rF}
set_option maxHeartbeats 4000000 in
theorem call_spec {y : Nat} {as rest : List Value} (he : stepM X M (pc, ls, st, h, ks, ss) = some (.inr (.inl (y, as, rest)))) :
    (∃ ix, decode (mb M) pc = .ok (.invokestatic ix, 3) ∧ asc mthT (ow M) ix = some (y, false) ∧ mst y = true ∧ mna y ≤ st.length ∧ okA y as = true ∧ rooms M y rest = true ∧ as = (st.take (mna y)).reverse ∧ rest = st.drop (mna y)) ∨
    (∃ ix pa fs, decode (mb M) pc = .ok (.invokevirtual ix, 3) ∧ asc mthT (ow M) ix = some (y, false) ∧ mst y = false ∧ (my y).name ≠ "<init>" ∧ mh y = [] ∧ ow y < 10 ∧ lk h pa = some (.inr (ow y, fs)) ∧ okA y as = true ∧ rooms M y rest = true ∧ as = .ref pa :: (st.take (mna y)).reverse ∧ st.drop (mna y) = .ref pa :: rest) ∨
    (∃ ix pa ne, decode (mb M) pc = .ok (.invokespecial ix, 3) ∧ asc mthT (ow M) ix = some (y, ne) ∧ mst y = false ∧ (my y).name = "<init>" ∧ mr y = none ∧ mh y = [] ∧ okA y as = true ∧ rooms M y rest = true ∧ as = .ref pa :: (st.take (mna y)).reverse ∧ st.drop (mna y) = .ref pa :: rest) := by
  unfold stepM at he
  dsimp only at he
  split at he
  · rename_i i len hd
    split at he
    · rename_i hk
      cases i
      case invokestatic ix =>
        cases eq_of_beq (show (len == 3) = true from hk)
        dsimp only [stepI, invS] at he
        split at he
        · rename_i hl
          split at he
          · rename_i hc
            cases he
            obtain ⟨h1, rfl, h2, h3, h4⟩ := hc
            exact Or.inl ⟨ix, hd, hl, h1, h2, h3, h4, rfl, rfl⟩
          · cases he
        · cases he
      case invokevirtual ix =>
        cases eq_of_beq (show (len == 3) = true from hk)
        dsimp only [stepI, invV] at he
        split at he
        · rename_i hl
          split at he
          · rename_i hdr
            split at he
            · rename_i hlk
              split at he
              · rename_i hc
                cases he
                obtain ⟨h1, rfl, h2, rfl, h3, h4, h5, h6⟩ := hc
                exact Or.inr (Or.inl ⟨ix, _, _, hd, hl, h1, h2, h4, h3, hlk, h5, h6, rfl, hdr⟩)
              · cases he
            · cases he
          · cases he
        · cases he
      case invokespecial ix =>
        cases eq_of_beq (show (len == 3) = true from hk)
        dsimp only [stepI, invI] at he
        split at he
        · split at he
          · split at he
            · unfold nx at he
              cases he
            · cases he
          · cases he
        · split at he
          · rename_i hl
            split at he
            · rename_i hdr
              split at he
              · rename_i hc
                cases he
                obtain ⟨h1, h2, h3, h4, h5, h6⟩ := hc
                exact Or.inr (Or.inr ⟨ix, _, _, hd, hl, h1, h2, h3, h4, h5, h6, rfl, hdr⟩)
              · cases he
            · cases he
          · cases he
      case ifCond cc o =>
        exfalso
        cases cc <;> (dsimp only [stepI, icm0, jmp, nx] at he; repeat' (first | (cases he; done) | split at he))
      case if_icmp cc o =>
        exfalso
        cases cc <;> (dsimp only [stepI, icmp, jmp, nx] at he; repeat' (first | (cases he; done) | split at he))
      all_goals exfalso
      all_goals dsimp only [stepI, bin, icmp, icm0, jmp, ldI, ldA, stI, stA, aget, agetL, aput, aputZ, aputL, alen, fget, fput, sget, newo, newa, tsw, retI, retA, retV, done, nx] at he
      all_goals repeat' (first | (cases he; done) | split at he)
    · cases he
  · cases he
set_option maxHeartbeats 4000000 in
theorem done_spec {r : rR} (he : stepM X M (pc, ls, st, h, ks, ss) = some (.inr (.inr r))) :
    (∃ v ty, decode (mb M) pc = .ok (.ireturn, 1) ∧ st = [.int v] ∧ mr M = some ty ∧ narrow ty (.int v) = .int v ∧ r = (.inl (some (.int v)), h, ks, ss)) ∨
    (∃ pa n, decode (mb M) pc = .ok (.areturn, 1) ∧ st = [.ref pa] ∧ mr M = some (.object n) ∧ r = (.inl (some (.ref pa)), h, ks, ss)) ∨
    (decode (mb M) pc = .ok (.return_, 1) ∧ st = [] ∧ mr M = none ∧ r = (.inl none, h, ks, ss)) ∨
    (∃ ix n, decode (mb M) pc = .ok (.new ix, 3) ∧ exRow excT M ix pc = some n ∧ decode (mb M) (pc + 3) = .ok (.dup, 1) ∧ decode (mb M) (pc + 9) = .ok (.athrow, 1) ∧ mh M = [] ∧ 6 ≤ fr M ∧ vcat st + 82 ≤ lo M ∧ r = (.inr n, h, ks + 1, ss + 6)) := by
  unfold stepM at he
  dsimp only at he
  split at he
  · rename_i i len hd
    split at he
    · rename_i hk
      cases i
      case ireturn =>
        cases eq_of_beq (show (len == 1) = true from hk)
        dsimp only [stepI, retI, done] at he
        split at he
        · split at he
          · rename_i hr
            split at he
            · rename_i hn
              cases he
              exact Or.inl ⟨_, _, hd, rfl, hr, hn, rfl⟩
            · cases he
          · cases he
        · cases he
      case areturn =>
        cases eq_of_beq (show (len == 1) = true from hk)
        dsimp only [stepI, retA, done] at he
        split at he
        · split at he
          · rename_i hr
            cases he
            exact Or.inr (Or.inl ⟨_, _, hd, rfl, hr, rfl⟩)
          · cases he
        · cases he
      case return_ =>
        cases eq_of_beq (show (len == 1) = true from hk)
        dsimp only [stepI, retV, done] at he
        split at he
        · split at he
          · rename_i hr
            cases he
            exact Or.inr (Or.inr (Or.inl ⟨hd, rfl, hr, rfl⟩))
          · cases he
        · cases he
      case new ix =>
        cases eq_of_beq (show (len == 3) = true from hk)
        dsimp only [stepI, newo] at he
        split at he
        · split at he
          · unfold nx at he
            cases he
          · cases he
        · split at he
          · rename_i hx
            split at he
            · rename_i hc
              cases he
              obtain ⟨h1, h2, h3, h4, h5⟩ := hc
              exact Or.inr (Or.inr (Or.inr ⟨ix, _, hd, hx, h1, h2, h3, h4, h5, rfl⟩))
            · cases he
          · cases he
      case ifCond cc o =>
        exfalso
        cases cc <;> (dsimp only [stepI, icm0, jmp, nx] at he; repeat' (first | (cases he; done) | split at he))
      case if_icmp cc o =>
        exfalso
        cases cc <;> (dsimp only [stepI, icmp, jmp, nx] at he; repeat' (first | (cases he; done) | split at he))
      all_goals exfalso
      all_goals dsimp only [stepI, bin, icmp, icm0, jmp, ldI, ldA, stI, stA, aget, agetL, aput, aputZ, aputL, alen, fget, fput, sget, newa, tsw, invS, invV, invI, nx] at he
      all_goals repeat' (first | (cases he; done) | split at he)
    · cases he
  · cases he
theorem exRow_spec : ∀ (t : List (Nat × Nat × Nat × Nat × Nat × String)) {ix n : Nat}, exRow t M ix pc = some n → ∃ q ∈ t, q.1 = ow M ∧ q.2.1 = ix ∧ decode (mb M) (pc + 4) = .ok (.ldc q.2.2.1, 2) ∧ decode (mb M) (pc + 6) = .ok (.invokespecial q.2.2.2.1, 3) ∧ q.2.2.2.2.1 = n
  | [], _, _, h => by cases h
  | q :: t, ix, n, h => by
    unfold exRow at h
    split at h
    · rename_i hc
      cases h
      exact ⟨q, List.mem_cons_self, hc.1, hc.2.1, hc.2.2.1, hc.2.2.2, rfl⟩
    · obtain ⟨q', h1, h2⟩ := exRow_spec t h
      exact ⟨q', List.mem_cons_of_mem _ h1, h2⟩
end SNF
end
section
/-! SOUND -/
section SNH
variable {p : Program} {l : Launch} {e : Env} {R : Room} {s : State} {m : MethodId} {args : Array Value} {below : List Frame} {meth : Method} {c : Code} {Q : State → Prop} {D : va_G} {dA : Nat → ClassId} {A : Nat → Prop} {xt : Nat → Option Nat} {X : rX} {M : Nat} {a0 : List Nat}
variable {pc ks ss : Nat} {ls : rL} {st : List Value} {h : rH} {g : rF}
set_option maxHeartbeats 4000000 in
theorem step_cap (he : stepM X M (pc, ls, st, h, ks, ss) = some (.inl g)) : ks ≤ g.2.2.2.2.1 ∧ ss ≤ g.2.2.2.2.2 := by
  unfold stepM at he
  dsimp only at he
  split at he
  · rename_i i len hd
    split at he
    · rename_i hk
      cases i
      case ifCond cc o =>
        cases cc <;> (dsimp only [stepI, icm0, jmp, nx] at he; repeat' (first | (cases he; exact ⟨Nat.le_refl _, Nat.le_refl _⟩) | (cases he; done) | split at he))
      case if_icmp cc o =>
        cases cc <;> (dsimp only [stepI, icmp, jmp, nx] at he; repeat' (first | (cases he; exact ⟨Nat.le_refl _, Nat.le_refl _⟩) | (cases he; done) | split at he))
      all_goals dsimp only [stepI, bin, icmp, icm0, jmp, ldI, ldA, stI, stA, aget, agetL, aput, aputZ, aputL, alen, fget, fput, sget, newo, newa, tsw, invS, invV, invI, retI, retA, retV, done, nx] at he
      all_goals repeat' (first | (cases he; exact ⟨by dsimp only; omega, by dsimp only; omega⟩) | (cases he; done) | split at he)
    · cases he
  · cases he
theorem done_cap {r : rR} (he : stepM X M (pc, ls, st, h, ks, ss) = some (.inr (.inr r))) : ks ≤ r.2.2.1 ∧ ss ≤ r.2.2.2 := by
  rcases done_spec he with ⟨v, ty, -, -, -, -, rfl⟩ | ⟨pa, n, -, -, -, rfl⟩ | ⟨-, -, -, rfl⟩ | ⟨ix, n, -, -, -, -, -, -, -, rfl⟩ <;> exact ⟨by dsimp only; omega, by dsimp only; omega⟩
theorem thr_spec {E : Nat} {k0 s0 : Nat} {q : rF ⊕ rR} (h0 : thr M E pc ls h k0 s0 = some q) : (∃ t, hnd (ow M) E pc (mh M) = some t ∧ q = .inl (t, ls, [.ref 99999], h, k0, s0)) ∨ (mh M = [] ∧ q = .inr (.inr E, h, k0, s0)) := by
  unfold thr at h0
  split at h0
  · rename_i t ht
    cases h0
    exact Or.inl ⟨t, ht, rfl⟩
  · split at h0
    · rename_i hm
      cases h0
      exact Or.inr ⟨hm, rfl⟩
    · cases h0
theorem run_cap : ∀ (n M : Nat) (f : rF) (r : rR), run X n M f = some r → f.2.2.2.2.1 ≤ r.2.2.1 ∧ f.2.2.2.2.2 ≤ r.2.2.2 := by
  intro n
  induction n with
  | zero => intro M f r h; cases h
  | succ n ih =>
    intro M f r h0
    obtain ⟨pc, ls, st, h, ks, ss⟩ := f
    rw [run] at h0
    cases hs : stepM X M (pc, ls, st, h, ks, ss) with
    | none => rw [hs] at h0; cases h0
    | some q =>
      rw [hs] at h0
      rcases q with g | ⟨y, as, rest⟩ | r'
      · have a := step_cap hs
        have b := ih M g r h0
        exact ⟨Nat.le_trans a.1 b.1, Nat.le_trans a.2 b.2⟩
      · dsimp only at h0
        cases hc : run X n y (ent y as h) with
        | none => rw [hc] at h0; cases h0
        | some q =>
          rw [hc] at h0
          obtain ⟨o, h1, k1, s1⟩ := q
          cases o with
          | inl v =>
            have b := ih M _ r h0
            dsimp only at b ⊢
            omega
          | inr E =>
            dsimp only at h0
            cases hh : thr M E pc ls h1 (ks + k1) (ss + s1) with
            | none => rw [hh] at h0; cases h0
            | some q =>
              rw [hh] at h0
              rcases thr_spec hh with ⟨t, -, rfl⟩ | ⟨-, rfl⟩
              · have b := ih M _ r h0
                dsimp only at b ⊢
                omega
              · cases h0
                dsimp only
                omega
      · cases h0
        exact done_cap hs
theorem OR_FR {a : List Nat} {v w : Option Value} {vs ws : List Value} (h1 : OR xt a v w) (h2 : FR (VR xt a) vs ws) : FR (VR xt a) (v.toList ++ vs) (w.toList ++ ws) := by
  cases v with
  | none => rw [show w = none from h1]; exact h2
  | some v =>
    obtain ⟨w', e, h3⟩ := h1
    rw [e]
    exact ⟨w', ws, rfl, h3, h2⟩
theorem go_call (cx : CX p l R s m args meth c D dA A xt X M) {y : Nat} {as rest : List Value} {r : rR} (he : stepM X M (pc, ls, st, h, ks, ss) = some (.inr (.inl (y, as, rest)))) (hC : MF y → as.all (fun v => v.category == 1) = true → as.length ≤ ml y → CON l X y as h r) (hcap : ks + r.2.2.1 ≤ R.cells ∧ ss + r.2.2.2 ≤ R.slots)
    (K1 : ∀ v, r.1 = .inl v → GO p l e R s m args below meth c Q D dA A xt a0 M (pc + 3, ls, v.toList ++ rest, r.2.1, ks + r.2.2.1, ss + r.2.2.2))
    (K2 : ∀ n, r.1 = .inr n → n < 3 → ∀ (ws' : va_W) (H1 : Heap) (locs1 : List Loc) (cls : Array Slot) (crest : List Value) (q : Nat) (ce : Cell), HR xt dA a0 r.2.1 ws' → va_P D vwCl ws' H1 → va_D A ws' → va_S A s.heap H1 locs1 → LR (VR xt (ws'.map (·.1))) ls cls (ml M) → H1[q]? = some ce → ce.vm = .none → s.vm.findClass (en n) = some ce.cls → vx_W p l e R s m args below meth c H1 locs1 (ks + r.2.2.1) (ss + r.2.2.2) Q (F0 m pc cls crest) q) :
    GO p l e R s m args below meth c Q D dA A xt a0 M (pc, ls, st, h, ks, ss) := by
  intro H locs cls cst ws hH hP hD hS hst hls
  have hA := cx.2.2.1
  have hsz : cls.size = ml M := by obtain ⟨h0, lv, h1, h3⟩ := hls; exact h1.1
  have hH' : HR xt dA (ws.map (·.1)) h ws := ⟨hH.1, hH.2.1, [], by simp⟩
  have fin : ∀ (crest : List Value) (av : Array Value), FR (VR xt (ws.map (·.1))) rest crest → vx_Run p l e R s m args below meth c H locs ks ss r.2.2.1 r.2.2.2 (F0 m pc cls cst) crest (QU D dA xt ws H.size r av) (XU D dA xt ws H.size r) (va_A ws H.size) → W p l e R s m args below meth c H locs ks ss Q (F0 m pc cls cst) := by
    intro crest av hr hrun
    refine run_el hA hD hS hH hrun (fun v w ws' H1 locs1 h1 h2 h3 h4 h5 h6 h7 => ?_) (fun n ws' H1 locs1 q ce h1 hn h3 h4 h5 h6 h7 h8 h9 h10 => ?_)
    · obtain ⟨b, hb⟩ := h4
      refine K1 v h1 H1 locs1 cls _ ws' h3 h5 h6 h7 (OR_FR h2 ?_) ?_
      · rw [hb]; exact FR_mono (fun _ _ => VR_mono) hr
      · rw [hb]; exact LR_mono (fun _ _ => VR_mono) hls
    · obtain ⟨b, hb⟩ := h4
      refine K2 n h1 hn ws' H1 locs1 cls crest q ce h3 h5 h6 h7 ?_ h8 h9 h10
      rw [hb]; exact LR_mono (fun _ _ => VR_mono) hls
  have hok : ∀ {as : List Value}, okA y as = true → as.all (fun v => v.category == 1) = true ∧ as.length ≤ ml y := fun h1 => by
    unfold okA at h1
    rw [Bool.and_eq_true] at h1
    exact ⟨h1.1, of_decide_eq_true h1.2⟩
  have hrm : rooms M y rest = true → fr y + 1 ≤ fr M ∧ 8 + (ml y + 11) + lo y ≤ lo M ∧ vcat rest ≤ 8 := fun h1 => by
    unfold rooms at h1
    rw [Bool.and_eq_true, Bool.and_eq_true] at h1
    exact ⟨of_decide_eq_true h1.1.1, of_decide_eq_true h1.1.2, of_decide_eq_true h1.2⟩
  rcases call_spec he with ⟨ix, hd, hl, hst9, hlen, hoa, hro, rfl, rfl⟩ | ⟨ix, pa, fs, hd, hl, hst9, hni, hnh, how, hlk, hoa, hro, rfl, hdr⟩ | ⟨ix, pa, ne, hd, hl, hst9, hni, hnr, hnh, hoa, hro, rfl, hdr⟩
  · obtain ⟨hw, hmy⟩ := mthT_ok _ (asc_mem _ _ _ _ hl)
    obtain ⟨o1, o2⟩ := hok hoa
    obtain ⟨r1, r2, r3⟩ := hrm hro
    have hF : FR (VR xt (ws.map (·.1))) (st.take (mna y)).reverse (cst.take (mna y)).reverse := FR_rev (FR_take hst _)
    have hlc := FR_len hst
    refine fin (cst.drop (mna y)) _ (FR_drop hst _) (run_S (As := (cst.take (mna y)).reverse) cx hD hP hS hsz hd hmy hw hst9 r1 r2 ?_ (by simp) ?_ hcap (hC hmy o1 o2 D dA xt ws _ H.size hH' hF))
    · simp only [List.length_reverse, List.length_take]
      have : cst.length = st.length := hlc
      omega
    · rw [FR_cat (FR_drop hst _)]; exact r3
  · obtain ⟨hw, hmy⟩ := mthT_ok _ (asc_mem _ _ _ _ hl)
    obtain ⟨o1, o2⟩ := hok hoa
    obtain ⟨r1, r2, r3⟩ := hrm hro
    have hdc := FR_drop hst (mna y)
    rw [show (pc, ls, st, h, ks, ss).2.2.1.drop (mna y) = Value.ref pa :: rest from hdr] at hdc
    obtain ⟨b, crest, hcd, hvb, hcr⟩ := FRr hdc
    have hF : FR (VR xt (ws.map (·.1))) (.ref pa :: (st.take (mna y)).reverse) (.ref b :: (cst.take (mna y)).reverse) := ⟨_, _, rfl, hvb, FR_rev (FR_take hst _)⟩
    obtain ⟨q', ce, e1, e2, ⟨gs, e3, e4⟩, -⟩ := HR_get hH hlk hvb
    cases e1
    subst e3
    have hlc := FR_len hst
    have hlt : mna y < st.length := by
      have := congrArg List.length hdr
      simp at this
      omega
    refine fin crest _ hcr (run_V (As := (cst.take (mna y)).reverse) cx hD hP hS hsz hd hmy hw hst9 hni hnh how e2 r1 r2 ?_ ?_ ?_ hcap (hC hmy o1 o2 D dA xt ws _ H.size hH' hF))
    · simp only [List.length_reverse, List.length_take]
      have : cst.length = st.length := hlc
      omega
    · rw [List.reverse_reverse, ← hcd, List.take_append_drop]
    · rw [FR_cat hcr]; exact r3
  · obtain ⟨hw, hmy⟩ := mthT_ok _ (asc_mem _ _ _ _ hl)
    obtain ⟨o1, o2⟩ := hok hoa
    obtain ⟨r1, r2, r3⟩ := hrm hro
    have hdc := FR_drop hst (mna y)
    rw [show (pc, ls, st, h, ks, ss).2.2.1.drop (mna y) = Value.ref pa :: rest from hdr] at hdc
    obtain ⟨b, crest, hcd, hvb, hcr⟩ := FRr hdc
    have hF : FR (VR xt (ws.map (·.1))) (.ref pa :: (st.take (mna y)).reverse) (.ref b :: (cst.take (mna y)).reverse) := ⟨_, _, rfl, hvb, FR_rev (FR_take hst _)⟩
    have hlc := FR_len hst
    have hlt : mna y < st.length := by
      have := congrArg List.length hdr
      simp at this
      omega
    refine fin crest _ hcr (run_I (ne := ne) (As := (cst.take (mna y)).reverse) cx hD hP hS hsz hd hmy hw hst9 hni hnr hnh r1 r2 ?_ ?_ ?_ hcap (hC hmy o1 o2 D dA xt ws _ H.size hH' hF))
    · simp only [List.length_reverse, List.length_take]
      have : cst.length = st.length := hlc
      omega
    · rw [List.reverse_reverse, ← hcd, List.take_append_drop]
    · rw [FR_cat hcr]; exact r3
def TR (s : State) (args : Array Value) (D : va_G) (dA : Nat → ClassId) (A : Nat → Prop) (xt : Nat → Option Nat) (a0 : List Nat) (Qc : Array Value → State → Outcome → State → Prop) (r : rR) : Prop := ∀ (v w : Option Value) (ws' : va_W) (t : State), r.1 = .inl v → OR xt (ws'.map (·.1)) v w → HR xt dA a0 r.2.1 ws' → va_P D vwCl ws' t.heap → va_D A ws' → va_F A s t → Qc args s (.returned w) t
def TT (s : State) (D : va_G) (dA : Nat → ClassId) (A : Nat → Prop) (xt : Nat → Option Nat) (a0 : List Nat) (XC : String → State → State → Prop) (r : rR) : Prop := ∀ (n : Nat) (ws' : va_W) (t : State), r.1 = .inr n → n < 3 → HR xt dA a0 r.2.1 ws' → va_P D vwCl ws' t.heap → va_D A ws' → va_F A s t → XC (en n) s t
theorem go_end {Qc : Array Value → State → Outcome → State → Prop} {XC : String → State → State → Prop} (cx : CX p l R s m args meth c D dA A xt X M) (htab : c.exceptionTable.toList = tableOf (mh M)) {r : rR} (he : stepM X M (pc, ls, st, h, ks, ss) = some (.inr (.inr r))) (hcap : r.2.2.1 ≤ R.cells ∧ r.2.2.2 ≤ R.slots)
    (h1 : TR s args D dA A xt a0 Qc r) (h2 : TT s D dA A xt a0 XC r) : GO p l e R s m args below meth c (vx_MQ below Qc XC args s r.2.2.1 r.2.2.2 A) D dA A xt a0 M (pc, ls, st, h, ks, ss) := by
  obtain ⟨⟨hx, hb, hml, hown, hts⟩, hK, hA, hR, hE, hfl, hlocks, hret, hnm⟩ := cx
  intro H locs cls cst ws hH hP hD hS hst hls
  rcases done_spec he with ⟨v, ty, hd, rfl, hr, hn, rfl⟩ | ⟨pa, n, hd, rfl, hr, rfl⟩ | ⟨hd, rfl, hr, rfl⟩ | ⟨ix, n, hd, hex, hd3, hd9, hmh, hfr, hlo, rfl⟩
  · obtain ⟨c1, rfl, h3⟩ := FRi hst
    have h4 : c1 = [] := h3
    subst h4
    exact vx_ret (W.zret hx hb (hret.trans hr) hn (fun t ht _ => h1 _ (some (.int v)) ws t rfl ⟨_, rfl, rfl⟩ hH (by rw [ht]; exact hP) hD (hS.F ht)) hS.2.2 hd hlocks)
  · obtain ⟨q, c1, rfl, hv, h3⟩ := FRr hst
    have h4 : c1 = [] := h3
    subst h4
    exact vx_ret (W.aret hx hb (hret.trans hr) (Or.inl ⟨n, rfl⟩) (Or.inr ⟨q, rfl⟩) (fun t ht _ => h1 _ (some (.ref q)) ws t rfl ⟨_, rfl, hv⟩ hH (by rw [ht]; exact hP) hD (hS.F ht)) hS.2.2 hd hlocks)
  · have h4 : cst = [] := hst
    subst h4
    exact vx_ret (W.vret hx hb (hret.trans hr) (fun t ht _ => h1 _ none ws t rfl rfl hH (by rw [ht]; exact hP) hD (hS.F ht)) hS.2.2 hd hlocks)
  · obtain ⟨q, hq, q1, q2, q3, q4, q5⟩ := exRow_spec _ hex
    obtain ⟨w1, w2, w3⟩ := excT_ok q hq
    obtain ⟨sa, hsa⟩ := hE.2.2.2.2.1 q hq
    rw [q1, q2] at w1 w2
    rw [q1] at hsa
    rw [q5] at w1 w2 w3
    have wl := fun w hw => hts w (w1 w hw)
    have hsz : cls.size = ml M := by obtain ⟨h0, lv, h3, h4⟩ := hls; exact h3.1
    refine vx_throwS (own := rn (ow M)) (cls := en n) (text := q.2.2.2.2.2) (names := exUp) (ik := ix) (is := q.2.2.1) (ic := q.2.2.2.1) (sa := sa) (A := A) hx hb hfl hown (enF n w3) upF (wl _ List.mem_cons_self) (wl _ (List.mem_cons_of_mem _ List.mem_cons_self)) hsa (fun w hw => wl w (List.mem_cons_of_mem _ (List.mem_cons_of_mem _ hw))) w2 hE.2.2.1 hE.2.2.2.1 hS (by rw [hml]; exact hsz) hd hd3 q3 q4 hd9 ?_ ?_ ?_ hcap.1 hcap.2 hlocks ?_ hS.2.2 (Nat.le_refl _) (Nat.le_refl _)
    · rw [htab, hmh]
      intro x hx9
      cases hx9
    · show 2 + 3 < R.frames
      have := hR.1
      omega
    · rw [FR_cat hst]
      show vcat st + (13 * 3 + 43) ≤ R.locals
      have := hR.2
      omega
    · intro t _ hsz1 hsm
      exact h2 n ws t rfl w3 hH (hP.kept fun k q9 hk => hsm _ ((hP k q9 hk).lt)) hD ⟨Nat.le_trans hS.1 hsz1, fun q9 a b => by rw [hsm q9 (Nat.lt_of_lt_of_le a hS.1)]; exact hS.2.1 q9 a b⟩
theorem hnd_spec {o E t : Nat} : ∀ (hs : List (Nat × Nat × Nat × Nat)), hnd o E pc hs = some t → ∃ pre q suf, hs = pre ++ q :: suf ∧ asc ctT o q.2.2.2 = some E ∧ q.1 ≤ pc ∧ pc < q.2.1 ∧ q.2.2.1 = t ∧ ∀ z ∈ pre, ∃ c, asc ctT o z.2.2.2 = some c ∧ c ≠ E
  | [], h => by cases h
  | q :: hs, h => by
    unfold hnd at h
    split at h
    · rename_i c hc
      split at h
      · rename_i hce
        split at h
        · rename_i hp
          cases h
          exact ⟨[], q, hs, rfl, by rw [hc, hce], hp.1, hp.2, rfl, fun z hz => by cases hz⟩
        · cases h
      · rename_i hce
        obtain ⟨pre, q', suf, e1, e2, e3, e4, e5, e6⟩ := hnd_spec hs h
        refine ⟨q :: pre, q', suf, by rw [e1]; rfl, e2, e3, e4, e5, fun z hz => ?_⟩
        rcases List.mem_cons.mp hz with rfl | hz
        · exact ⟨c, hc, hce⟩
        · exact e6 z hz
    · cases h
theorem castN {n : Nat} (h : n < 3) : Cond.castable (en n) (en n) ∈ TBL := by
  match n, h with
  | 0, _ => exact cast0
  | 1, _ => exact cast1
  | 2, _ => exact cast2
/-- caught -/
theorem go_catch {n t : Nat} {k0 s0 : Nat} (cx : CX p l R s m args meth c D dA A xt X M) (htab : c.exceptionTable.toList = tableOf (mh M)) (hn : n < 3) (hh : hnd (ow M) n pc (mh M) = some t) (K : GO p l e R s m args below meth c Q D dA A xt a0 M (t, ls, [.ref 99999], h, k0, s0)) :
    ∀ (ws' : va_W) (H1 : Heap) (locs1 : List Loc) (cls : Array Slot) (crest : List Value) (q : Nat) (ce : Cell), HR xt dA a0 h ws' → va_P D vwCl ws' H1 → va_D A ws' → va_S A s.heap H1 locs1 → LR (VR xt (ws'.map (·.1))) ls cls (ml M) → H1[q]? = some ce → ce.vm = .none → s.vm.findClass (en n) = some ce.cls → vx_W p l e R s m args below meth c H1 locs1 k0 s0 Q (F0 m pc cls crest) q := by
  obtain ⟨⟨hx, hb, hml, hown, hts⟩, hK, hA, hR, hE, hfl, hlocks, hret, hnm⟩ := cx
  intro ws' H1 locs1 cls crest q ce hH hP hD hS hls hc1 hc2 hc3
  obtain ⟨pre, x, suf, e1, e2, e3, e4, e5, e6⟩ := hnd_spec _ hh
  obtain ⟨w1, w2, w3⟩ := ctT_ok _ (asc_mem _ _ _ _ e2)
  have hsplit : c.exceptionTable.toList = tableOf pre ++ (⟨x.1, x.2.1, x.2.2.1, x.2.2.2⟩ : ExceptionTableEntry) :: tableOf suf := by
    rw [htab, e1]
    simp [tableOf]
  refine vx_catch (E := en n) (name := en n) hown (tableOf pre) ⟨x.1, x.2.1, x.2.2.1, x.2.2.2⟩ (tableOf suf) hsplit ?_ ?_ w3 (hts _ w1) (hts _ (castN hn)) hc1 hc2 hc3 ?_
  · intro z hz
    obtain ⟨z', hz', rfl⟩ := List.mem_map.mp hz
    obtain ⟨c', hc', hne⟩ := e6 z' hz'
    obtain ⟨v1, v2, v3⟩ := ctT_ok _ (asc_mem _ _ _ _ hc')
    exact Or.inr ⟨v3, en c', hts _ v1, hE.2.2.2.2.2 n c' hn v2 (fun q => hne q.symm)⟩
  · show (decide (x.1 ≤ pc) && decide (pc < x.2.1)) = true
    simp [e3, e4]
  · show W p l e R s m args below meth c H1 locs1 k0 s0 Q (F0 m x.2.2.1 cls [.ref q])
    rw [e5]
    exact K H1 locs1 cls [.ref q] ws' hH hP hD hS ⟨_, _, rfl, ⟨q, rfl, Or.inl rfl⟩, rfl⟩ hls
end SNH
end
section
/-! THE CONTRACT OF A METHOD, BY WHAT THE MACHINE COMPUTES -/
section SNI
variable {p : Program} {l : Launch} {e : Env} {R : Room} {s : State} {m : MethodId} {args : Array Value} {below : List Frame} {meth : Method} {c : Code} {D : va_G} {dA : Nat → ClassId} {A : Nat → Prop} {xt : Nat → Option Nat} {X : rX} {M : Nat} {a0 : List Nat}
theorem vx_ofWG {y : Nat} {rm : Room} {Pc : Array Value → State → Prop} {Qc : Array Value → State → Outcome → State → Prop} {XC : String → State → State → Prop} {mc ms : Nat} {free : Addr → Prop} (hy : plainFor (my y) = true)
    (body : ∀ p e s m args below meth c s₁, BodyLoose p l (my y) (headSpec (codeW y :: TBL) rm) (mb y) (ml y) (mr y) e s m args below meth c s₁ → c.maxLocals = ml y → c.exceptionTable.toList = tableOf (mh y) → Pc args s →
      W p l e (headSpec (codeW y :: TBL) rm).room s m args below meth c s.heap [] 0 0 (vx_MQ below Qc XC args s mc ms free) (entryFrame m args (ml y))) : vx_Met l (my y) (codeW y :: TBL) rm Pc Qc XC mc ms free := by
  refine MetFree.of_bodySF (code := mb y) (maxLocals := ml y) (ret := mr y) hy ?_ ?_
  · intro args s m h hn
    have hw := atoms_spec (ws := codeW y :: TBL) h _ List.mem_cons_self
    rcases hh : mh y with _ | ⟨q, t⟩
    · rw [codeW_nil hh] at hw
      obtain ⟨meth, c, h1, h2, h3, h4, h5, h6, -, -⟩ := Cond.code_spec hn hw
      exact ⟨meth, c, h1, h2, h3, h4, h5, h6⟩
    · rw [codeW_cons hh] at hw
      obtain ⟨m9, meth, c, hn9, h1, h2, h3, h4, -, h5, h6, -⟩ := Cond.codeWith_spec hw
      cases hn.symm.trans hn9
      exact ⟨meth, c, h1, h2, h3, h4, h5, h6⟩
  · intro p e s m args below meth c s₁ B hml hP _
    have hh0 : s₁.heap = s.heap := by rw [B.state]; rfl
    have hw := atoms_spec (ws := codeW y :: TBL) B.pre _ List.mem_cons_self
    have ht : c.exceptionTable.toList = tableOf (mh y) := by
      rcases hh : mh y with _ | ⟨q, t⟩
      · rw [codeW_nil hh] at hw
        obtain ⟨meth9, c9, h1, h2, -, -, -, -, h7, -⟩ := Cond.code_spec B.named hw
        cases Option.some.inj (h1.symm.trans B.method)
        cases Option.some.inj (h2.symm.trans (Stand.of_body B).code)
        rw [Array.isEmpty_iff.mp h7]
        rfl
      · rw [codeW_cons hh, hh] at hw
        exact vx_table (x := my y) B hw
    obtain ⟨t, a1, o, b1, b2, b3⟩ := body p e s m args below meth c s₁ B hml ht hP s₁ hh0 (Stand.of_body B)
    exact ⟨t, o, a1, b1, b2, b3⟩
theorem con_of {y : Nat} {as : List Value} {h : rH} {r : rR} (hfl : l.stackTraces = false) (hmy : MF y) (h1 : as.all (fun v => v.category == 1) = true) (h2 : as.length ≤ ml y)
    (body : ∀ {p : Program} {e : Env} {R : Room} {s : State} {m : MethodId} {args : Array Value} {below : List Frame} {meth : Method} {c : Code} {D : va_G} {dA : Nat → ClassId} {A : Nat → Prop} {xt : Nat → Option Nat} {a0 : List Nat} {Qc : Array Value → State → Outcome → State → Prop} {XC : String → State → State → Prop}, CX p l R s m args meth c D dA A xt X y → c.exceptionTable.toList = tableOf (mh y) → r.2.2.1 ≤ R.cells ∧ r.2.2.2 ≤ R.slots → TR s args D dA A xt a0 Qc r → TT s D dA A xt a0 XC r → GO p l e R s m args below meth c (vx_MQ below Qc XC args s r.2.2.1 r.2.2.2 A) D dA A xt a0 y (ent y as h)) : CON l X y as h r := by
  intro D dA xt ws cas sz hH hF
  refine vx_ofWG hmy.2.2.2.2.1 ?_
  intro p e s m args below meth c s₁ B hml htab hv
  obtain ⟨rfl, hsz, hP, hK, hD0, hE⟩ := hv
  subst hsz
  have hts9 := atoms_spec (ws := codeW y :: TBL) B.pre
  have cx : CX p l (rmy y r) s m cas.toArray meth c D dA (va_A ws s.heap.size) xt X y := ⟨⟨B.exec, B.bytes, hml, by rw [← hmy.2.2.2.2.2.1]; exact findClass_of_methodNamed B.named, fun w hw => hts9 w (List.mem_cons_of_mem _ hw)⟩, hK, fun q h => Or.inr h, ⟨Nat.le_refl _, Nat.le_refl _⟩, hE, hfl, B.notSynchronized, B.returns, fun hn => (name_of_methodNamed B.named B.method).1.trans hn⟩
  have G := body (e := e) (below := below) (a0 := ws.map (·.1)) (Qc := QU D dA xt ws s.heap.size r) (XC := XU D dA xt ws s.heap.size r) cx htab ⟨Nat.le_refl _, Nat.le_refl _⟩ (fun v w ws' t e1 e2 e3 e4 e5 e6 => ⟨⟨v, w, ws', e1, rfl, e2, e3, e4, e5⟩, e6⟩) (fun n ws' t e1 hn e3 e4 e5 e6 => ⟨⟨n, ws', e1, hn, rfl, e3, e4, e5⟩, e6⟩)
  have hlen := FR_len hF
  have hcat : cas.all (fun v => v.category == 1) = true := by
    rw [List.all_eq_true] at h1 ⊢
    intro w hw
    obtain ⟨k, hk⟩ := List.getElem?_of_mem hw
    have hk2 : k < as.length := by rw [← hlen]; exact (List.getElem?_eq_some_iff.mp hk).1
    obtain ⟨w', e1, e2⟩ := FR_get hF k as[k] (List.getElem?_eq_getElem hk2)
    rw [hk] at e1
    cases e1
    rw [VR_cat e2]
    exact h1 _ (List.getElem_mem hk2)
  have hsl : ∀ {vs : List Value}, vs.all (fun v => v.category == 1) = true → (lg_sl vs).length = vs.length := by
    intro vs
    induction vs with
    | nil => intro _; rfl
    | cons v vs ih =>
      intro hv
      simp only [List.all_cons, Bool.and_eq_true, beq_iff_eq] at hv
      simp only [lg_sl, List.flatMap_cons, hv.1]
      have := ih hv.2
      simp only [lg_sl] at this
      simp [this]
  have hl := lv_entry cas (n := ml y) (by rw [hsl hcat, hlen]; exact h2)
  rw [lg_entry_eq]
  refine G s.heap [] _ [] ws hH hP hD0.self va_S.rf rfl ⟨?_, _, hl, ?_⟩
  · show (as.map some ++ List.replicate (ml y - as.length) none).length = ml y
    simp
    omega
  · intro i v hi
    have hi' : (as.map some ++ List.replicate (ml y - as.length) none)[i]? = some (some v) := hi
    by_cases hia : i < as.length
    · rw [List.getElem?_append_left (by simpa using hia)] at hi'
      obtain ⟨w, a, b, c⟩ := LR_entry (fun _ _ => VR_cat) hF h1 0 i v hi'
      exact ⟨w, a, b, by simpa using c⟩
    · rw [List.getElem?_append_right (by simpa using Nat.le_of_not_lt hia)] at hi'
      have := List.mem_of_getElem? hi'
      simp at this
theorem sound (hfl : l.stackTraces = false) : ∀ (n M : Nat) (f : rF) (r : rR), run X n M f = some r → ∀ {p : Program} {e : Env} {R : Room} {s : State} {m : MethodId} {args : Array Value} {below : List Frame} {meth : Method} {c : Code} {D : va_G} {dA : Nat → ClassId} {A : Nat → Prop} {xt : Nat → Option Nat} {a0 : List Nat} {Qc : Array Value → State → Outcome → State → Prop} {XC : String → State → State → Prop}, CX p l R s m args meth c D dA A xt X M → c.exceptionTable.toList = tableOf (mh M) → r.2.2.1 ≤ R.cells ∧ r.2.2.2 ≤ R.slots → TR s args D dA A xt a0 Qc r → TT s D dA A xt a0 XC r → GO p l e R s m args below meth c (vx_MQ below Qc XC args s r.2.2.1 r.2.2.2 A) D dA A xt a0 M f := by
  intro n
  induction n with
  | zero => intro M f r h; cases h
  | succ n ih =>
    intro M f r h0
    intro p e R s m args below meth c D dA A xt a0 Qc XC cx htab hcap h1 h2
    obtain ⟨pc, ls, st, h, ks, ss⟩ := f
    rw [run] at h0
    cases hs : stepM X M (pc, ls, st, h, ks, ss) with
    | none => rw [hs] at h0; cases h0
    | some q =>
      rw [hs] at h0
      rcases q with g | ⟨y, as, rest⟩ | r'
      · have b := run_cap n M g r h0
        exact go_step cx hs ⟨Nat.le_trans b.1 hcap.1, Nat.le_trans b.2 hcap.2⟩ (ih M g r h0 cx htab hcap h1 h2)
      · dsimp only at h0
        cases hc : run X n y (ent y as h) with
        | none => rw [hc] at h0; cases h0
        | some q =>
          rw [hc] at h0
          have hC : MF y → as.all (fun v => v.category == 1) = true → as.length ≤ ml y → CON l X y as h q := fun m1 m2 m3 => con_of hfl m1 m2 m3 (fun cx htab hcap h1 h2 => ih y (ent y as h) q hc cx htab hcap h1 h2)
          obtain ⟨o, hh, k1, s1⟩ := q
          cases o with
          | inl v =>
            have b := run_cap n M _ r h0
            dsimp only at b
            refine go_call cx hs hC ⟨by dsimp only; omega, by dsimp only; omega⟩ (fun v' e1 => ?_) (fun n' e1 => by cases e1)
            cases e1
            exact ih M _ r h0 cx htab hcap h1 h2
          | inr E =>
            dsimp only at h0
            cases ht : thr M E pc ls hh (ks + k1) (ss + s1) with
            | none => rw [ht] at h0; cases h0
            | some q =>
              rw [ht] at h0
              rcases thr_spec ht with ⟨t, hhn, rfl⟩ | ⟨hm, rfl⟩
              · have b := run_cap n M _ r h0
                dsimp only at b
                refine go_call cx hs hC ⟨by dsimp only; omega, by dsimp only; omega⟩ (fun v' e1 => by cases e1) (fun n' e1 hn => ?_)
                cases e1
                exact go_catch cx htab hn hhn (ih M _ r h0 cx htab hcap h1 h2)
              · cases h0
                refine go_call cx hs hC hcap (fun v' e1 => by cases e1) (fun n' e1 hn => ?_)
                cases e1
                intro ws' H1 locs1 cls crest q ce hH hP hD hS hls hc1 hc2 hc3
                refine vx_out (E := en E) ?_ cx.2.2.2.2.2.2.1 hc1 hc2 hc3 (fun t ht9 _ => h2 E ws' t rfl hn hH (by rw [ht9]; exact hP) hD (hS.F ht9)) hS.2.2 (Nat.le_refl _) (Nat.le_refl _)
                rw [htab, hm]
                intro x hx
                cases hx
      · cases h0
        exact go_end cx htab hs hcap h1 h2
/-- what the machine computes of a method is its contract -/
theorem con_ex (hfl : l.stackTraces = false) {y : Nat} {as : List Value} {h : rH} {r : rR} (hr : exC X y as h = some r) (hmy : MF y) (h1 : as.all (fun v => v.category == 1) = true) (h2 : as.length ≤ ml y) : CON l X y as h r := by
  obtain ⟨n, hn⟩ := exM_iff.mp hr
  exact con_of hfl hmy h1 h2 (fun cx htab hcap t1 t2 => sound hfl n y (ent y as h) r hn cx htab hcap t1 t2)
/-- a run of the top frame alone, up to a place -/
def runS (X : rX) (M sp : Nat) : Nat → rF → Option rF
  | 0, _ => none
  | n + 1, f => if f.1 = sp then some f else match stepM X M f with
    | some (.inl g) => runS X M sp n g
    | some (.inr (.inl (y, as, rest))) => match run X n y (ent y as f.2.2.2.1) with
      | some (.inl v, h, k, s) => runS X M sp n (f.1 + 3, f.2.1, v.toList ++ rest, h, f.2.2.2.2.1 + k, f.2.2.2.2.2 + s)
      | _ => none
    | _ => none
end SNI
end
