section
-- ===== PART A: goes FIRST, ahead of the names: the tables' words, and 'selects' of the private methods out of them =====
/-- a private method of a class that the tables say can be made, by its rows of tables_1 -/
def lw_okq (q : MethodName × Nat) : Prop := (q.1.cls ≠ "java/lang/invoke/MethodHandle" ∧ q.1.cls ≠ "java/lang/invoke/VarHandle") ∧ Cond.instantiable q.1.cls q.2 ∈ tables_1 ∧ Cond.privateMethod q.1 ∈ tables_1 ∧ Cond.instanceMethod q.1 ∈ tables_1
theorem lw_p0 : lw_okq (⟨"SpiderTales", "putBytes", "(I)V"⟩, 14) := ⟨⟨by decide +kernel, by decide +kernel⟩, List.mem_of_getElem? (i := 28) (by decide +kernel), List.mem_of_getElem? (i := 399) (by decide +kernel), List.mem_of_getElem? (i := 400) (by decide +kernel)⟩
theorem lw_p1 : lw_okq (⟨"SpiderTales", "refuseAct", "()I"⟩, 14) := ⟨⟨by decide +kernel, by decide +kernel⟩, List.mem_of_getElem? (i := 28) (by decide +kernel), List.mem_of_getElem? (i := 415) (by decide +kernel), List.mem_of_getElem? (i := 416) (by decide +kernel)⟩
theorem lw_p2 : lw_okq (⟨"SpiderTales$State", "setCord", "(II)V"⟩, 2) := ⟨⟨by decide +kernel, by decide +kernel⟩, List.mem_of_getElem? (i := 187) (by decide +kernel), List.mem_of_getElem? (i := 442) (by decide +kernel), List.mem_of_getElem? (i := 443) (by decide +kernel)⟩
theorem lw_p3 : lw_okq (⟨"SpiderTales$State", "stealIfRivalComes", "()V"⟩, 2) := ⟨⟨by decide +kernel, by decide +kernel⟩, List.mem_of_getElem? (i := 187) (by decide +kernel), List.mem_of_getElem? (i := 446) (by decide +kernel), List.mem_of_getElem? (i := 447) (by decide +kernel)⟩
theorem lw_p4 : lw_okq (⟨"SpiderTales$State", "setFate", "(II)V"⟩, 2) := ⟨⟨by decide +kernel, by decide +kernel⟩, List.mem_of_getElem? (i := 187) (by decide +kernel), List.mem_of_getElem? (i := 463) (by decide +kernel), List.mem_of_getElem? (i := 464) (by decide +kernel)⟩
theorem lw_p5 : lw_okq (⟨"SpiderTales$Sky", "partsOf", "(I)I"⟩, 7) := ⟨⟨by decide +kernel, by decide +kernel⟩, List.mem_of_getElem? (i := 36) (by decide +kernel), List.mem_of_getElem? (i := 506) (by decide +kernel), List.mem_of_getElem? (i := 507) (by decide +kernel)⟩
theorem lw_p6 : lw_okq (⟨"SpiderTales", "isFree", "(I)Z"⟩, 14) := ⟨⟨by decide +kernel, by decide +kernel⟩, List.mem_of_getElem? (i := 28) (by decide +kernel), List.mem_of_getElem? (i := 531) (by decide +kernel), List.mem_of_getElem? (i := 532) (by decide +kernel)⟩
theorem lw_p7 : lw_okq (⟨"SpiderTales", "spreadFrom", "(I)V"⟩, 14) := ⟨⟨by decide +kernel, by decide +kernel⟩, List.mem_of_getElem? (i := 28) (by decide +kernel), List.mem_of_getElem? (i := 536) (by decide +kernel), List.mem_of_getElem? (i := 537) (by decide +kernel)⟩
theorem lw_p8 : lw_okq (⟨"SpiderTales$Search", "begin", "()V"⟩, 17) := ⟨⟨by decide +kernel, by decide +kernel⟩, List.mem_of_getElem? (i := 222) (by decide +kernel), List.mem_of_getElem? (i := 564) (by decide +kernel), List.mem_of_getElem? (i := 565) (by decide +kernel)⟩
theorem lw_p9 : lw_okq (⟨"SpiderTales$Search", "visit", "(III)V"⟩, 17) := ⟨⟨by decide +kernel, by decide +kernel⟩, List.mem_of_getElem? (i := 222) (by decide +kernel), List.mem_of_getElem? (i := 568) (by decide +kernel), List.mem_of_getElem? (i := 569) (by decide +kernel)⟩
theorem lw_p10 : lw_okq (⟨"SpiderTales$Search", "goOnFrom", "(I)V"⟩, 17) := ⟨⟨by decide +kernel, by decide +kernel⟩, List.mem_of_getElem? (i := 222) (by decide +kernel), List.mem_of_getElem? (i := 572) (by decide +kernel), List.mem_of_getElem? (i := 573) (by decide +kernel)⟩
theorem lw_p11 : lw_okq (⟨"SpiderTales$Search", "isBound", "(II)Z"⟩, 17) := ⟨⟨by decide +kernel, by decide +kernel⟩, List.mem_of_getElem? (i := 222) (by decide +kernel), List.mem_of_getElem? (i := 590) (by decide +kernel), List.mem_of_getElem? (i := 591) (by decide +kernel)⟩
theorem lw_p12 : lw_okq (⟨"SpiderTales", "fewestNow", "(I)I"⟩, 14) := ⟨⟨by decide +kernel, by decide +kernel⟩, List.mem_of_getElem? (i := 28) (by decide +kernel), List.mem_of_getElem? (i := 624) (by decide +kernel), List.mem_of_getElem? (i := 625) (by decide +kernel)⟩
theorem lw_p13 : lw_okq (⟨"java/lang/Throwable", "fillInStackTrace", "(I)Ljava/lang/Throwable;"⟩, 6) := ⟨⟨by decide +kernel, by decide +kernel⟩, List.mem_of_getElem? (i := 694) (by decide +kernel), List.mem_of_getElem? (i := 692) (by decide +kernel), List.mem_of_getElem? (i := 693) (by decide +kernel)⟩
theorem lw_p14 : lw_okq (⟨"SpiderTales$Tokens", "readNumber", "()V"⟩, 7) := ⟨⟨by decide +kernel, by decide +kernel⟩, List.mem_of_getElem? (i := 134) (by decide +kernel), List.mem_of_getElem? (i := 753) (by decide +kernel), List.mem_of_getElem? (i := 754) (by decide +kernel)⟩
theorem lw_p15 : lw_okq (⟨"SpiderTales$Tokens", "readWord", "()V"⟩, 7) := ⟨⟨by decide +kernel, by decide +kernel⟩, List.mem_of_getElem? (i := 134) (by decide +kernel), List.mem_of_getElem? (i := 760) (by decide +kernel), List.mem_of_getElem? (i := 761) (by decide +kernel)⟩
def lw_privs_1 : List (MethodName × Nat) := [(⟨"SpiderTales", "putBytes", "(I)V"⟩, 14), (⟨"SpiderTales", "refuseAct", "()I"⟩, 14), (⟨"SpiderTales$State", "setCord", "(II)V"⟩, 2), (⟨"SpiderTales$State", "stealIfRivalComes", "()V"⟩, 2), (⟨"SpiderTales$State", "setFate", "(II)V"⟩, 2), (⟨"SpiderTales$Sky", "partsOf", "(I)I"⟩, 7), (⟨"SpiderTales", "isFree", "(I)Z"⟩, 14), (⟨"SpiderTales", "spreadFrom", "(I)V"⟩, 14), (⟨"SpiderTales$Search", "begin", "()V"⟩, 17), (⟨"SpiderTales$Search", "visit", "(III)V"⟩, 17), (⟨"SpiderTales$Search", "goOnFrom", "(I)V"⟩, 17), (⟨"SpiderTales$Search", "isBound", "(II)Z"⟩, 17), (⟨"SpiderTales", "fewestNow", "(I)I"⟩, 14), (⟨"java/lang/Throwable", "fillInStackTrace", "(I)Ljava/lang/Throwable;"⟩, 6), (⟨"SpiderTales$Tokens", "readNumber", "()V"⟩, 7), (⟨"SpiderTales$Tokens", "readWord", "()V"⟩, 7)]
theorem lw_r1 : ∀ q ∈ lw_privs_1, lw_okq q := List.forall_mem_cons.mpr ⟨lw_p0, List.forall_mem_cons.mpr ⟨lw_p1, List.forall_mem_cons.mpr ⟨lw_p2, List.forall_mem_cons.mpr ⟨lw_p3, List.forall_mem_cons.mpr ⟨lw_p4, List.forall_mem_cons.mpr ⟨lw_p5, List.forall_mem_cons.mpr ⟨lw_p6, List.forall_mem_cons.mpr ⟨lw_p7, List.forall_mem_cons.mpr ⟨lw_p8, List.forall_mem_cons.mpr ⟨lw_p9, List.forall_mem_cons.mpr ⟨lw_p10, List.forall_mem_cons.mpr ⟨lw_p11, List.forall_mem_cons.mpr ⟨lw_p12, List.forall_mem_cons.mpr ⟨lw_p13, List.forall_mem_cons.mpr ⟨lw_p14, List.forall_mem_cons.mpr ⟨lw_p15, fun _ h => absurd h List.not_mem_nil⟩⟩⟩⟩⟩⟩⟩⟩⟩⟩⟩⟩⟩⟩⟩⟩
theorem lw_p16 : lw_okq (⟨"SpiderTales$Tokens", "spells", "(Ljava/lang/String;)Z"⟩, 7) := ⟨⟨by decide +kernel, by decide +kernel⟩, List.mem_of_getElem? (i := 134) (by decide +kernel), List.mem_of_getElem? (i := 765) (by decide +kernel), List.mem_of_getElem? (i := 766) (by decide +kernel)⟩
theorem lw_p17 : lw_okq (⟨"SpiderTales$Reader", "readRow", "(LSpiderTales$Table;)V"⟩, 6) := ⟨⟨by decide +kernel, by decide +kernel⟩, List.mem_of_getElem? (i := 128) (by decide +kernel), List.mem_of_getElem? (i := 839) (by decide +kernel), List.mem_of_getElem? (i := 840) (by decide +kernel)⟩
theorem lw_p18 : lw_okq (⟨"SpiderTales$Reader", "refuse", "(I)V"⟩, 6) := ⟨⟨by decide +kernel, by decide +kernel⟩, List.mem_of_getElem? (i := 128) (by decide +kernel), List.mem_of_getElem? (i := 847) (by decide +kernel), List.mem_of_getElem? (i := 848) (by decide +kernel)⟩
theorem lw_p19 : lw_okq (⟨"SpiderTales$Reader", "readNumber", "(II)I"⟩, 6) := ⟨⟨by decide +kernel, by decide +kernel⟩, List.mem_of_getElem? (i := 128) (by decide +kernel), List.mem_of_getElem? (i := 864) (by decide +kernel), List.mem_of_getElem? (i := 865) (by decide +kernel)⟩
theorem lw_p20 : lw_okq (⟨"SpiderTales$Reader", "readCoins", "()V"⟩, 6) := ⟨⟨by decide +kernel, by decide +kernel⟩, List.mem_of_getElem? (i := 128) (by decide +kernel), List.mem_of_getElem? (i := 884) (by decide +kernel), List.mem_of_getElem? (i := 885) (by decide +kernel)⟩
theorem lw_p21 : lw_okq (⟨"SpiderTales$Reader", "readRival", "()V"⟩, 6) := ⟨⟨by decide +kernel, by decide +kernel⟩, List.mem_of_getElem? (i := 128) (by decide +kernel), List.mem_of_getElem? (i := 892) (by decide +kernel), List.mem_of_getElem? (i := 893) (by decide +kernel)⟩
theorem lw_p22 : lw_okq (⟨"SpiderTales$Reader", "readBound", "()V"⟩, 6) := ⟨⟨by decide +kernel, by decide +kernel⟩, List.mem_of_getElem? (i := 128) (by decide +kernel), List.mem_of_getElem? (i := 900) (by decide +kernel), List.mem_of_getElem? (i := 901) (by decide +kernel)⟩
theorem lw_p23 : lw_okq (⟨"SpiderTales$Reader", "readOr", "(I)V"⟩, 6) := ⟨⟨by decide +kernel, by decide +kernel⟩, List.mem_of_getElem? (i := 128) (by decide +kernel), List.mem_of_getElem? (i := 905) (by decide +kernel), List.mem_of_getElem? (i := 906) (by decide +kernel)⟩
theorem lw_p24 : lw_okq (⟨"SpiderTales$Reader", "canBeginExpression", "()Z"⟩, 6) := ⟨⟨by decide +kernel, by decide +kernel⟩, List.mem_of_getElem? (i := 128) (by decide +kernel), List.mem_of_getElem? (i := 909) (by decide +kernel), List.mem_of_getElem? (i := 910) (by decide +kernel)⟩
theorem lw_p25 : lw_okq (⟨"SpiderTales$Reader", "readAnd", "(I)V"⟩, 6) := ⟨⟨by decide +kernel, by decide +kernel⟩, List.mem_of_getElem? (i := 128) (by decide +kernel), List.mem_of_getElem? (i := 917) (by decide +kernel), List.mem_of_getElem? (i := 918) (by decide +kernel)⟩
theorem lw_p26 : lw_okq (⟨"SpiderTales$Reader", "readNot", "(I)V"⟩, 6) := ⟨⟨by decide +kernel, by decide +kernel⟩, List.mem_of_getElem? (i := 128) (by decide +kernel), List.mem_of_getElem? (i := 921) (by decide +kernel), List.mem_of_getElem? (i := 922) (by decide +kernel)⟩
theorem lw_p27 : lw_okq (⟨"SpiderTales$Reader", "readTest", "(I)V"⟩, 6) := ⟨⟨by decide +kernel, by decide +kernel⟩, List.mem_of_getElem? (i := 128) (by decide +kernel), List.mem_of_getElem? (i := 925) (by decide +kernel), List.mem_of_getElem? (i := 926) (by decide +kernel)⟩
theorem lw_p28 : lw_okq (⟨"SpiderTales$Reader", "readSum", "(I)V"⟩, 6) := ⟨⟨by decide +kernel, by decide +kernel⟩, List.mem_of_getElem? (i := 128) (by decide +kernel), List.mem_of_getElem? (i := 929) (by decide +kernel), List.mem_of_getElem? (i := 930) (by decide +kernel)⟩
theorem lw_p29 : lw_okq (⟨"SpiderTales$Reader", "readProduct", "(I)V"⟩, 6) := ⟨⟨by decide +kernel, by decide +kernel⟩, List.mem_of_getElem? (i := 128) (by decide +kernel), List.mem_of_getElem? (i := 933) (by decide +kernel), List.mem_of_getElem? (i := 934) (by decide +kernel)⟩
theorem lw_p30 : lw_okq (⟨"SpiderTales$Reader", "readPart", "(I)V"⟩, 6) := ⟨⟨by decide +kernel, by decide +kernel⟩, List.mem_of_getElem? (i := 128) (by decide +kernel), List.mem_of_getElem? (i := 937) (by decide +kernel), List.mem_of_getElem? (i := 938) (by decide +kernel)⟩
theorem lw_p31 : lw_okq (⟨"SpiderTales$Reader", "expect", "(I)V"⟩, 6) := ⟨⟨by decide +kernel, by decide +kernel⟩, List.mem_of_getElem? (i := 128) (by decide +kernel), List.mem_of_getElem? (i := 950) (by decide +kernel), List.mem_of_getElem? (i := 951) (by decide +kernel)⟩
def lw_privs_2 : List (MethodName × Nat) := [(⟨"SpiderTales$Tokens", "spells", "(Ljava/lang/String;)Z"⟩, 7), (⟨"SpiderTales$Reader", "readRow", "(LSpiderTales$Table;)V"⟩, 6), (⟨"SpiderTales$Reader", "refuse", "(I)V"⟩, 6), (⟨"SpiderTales$Reader", "readNumber", "(II)I"⟩, 6), (⟨"SpiderTales$Reader", "readCoins", "()V"⟩, 6), (⟨"SpiderTales$Reader", "readRival", "()V"⟩, 6), (⟨"SpiderTales$Reader", "readBound", "()V"⟩, 6), (⟨"SpiderTales$Reader", "readOr", "(I)V"⟩, 6), (⟨"SpiderTales$Reader", "canBeginExpression", "()Z"⟩, 6), (⟨"SpiderTales$Reader", "readAnd", "(I)V"⟩, 6), (⟨"SpiderTales$Reader", "readNot", "(I)V"⟩, 6), (⟨"SpiderTales$Reader", "readTest", "(I)V"⟩, 6), (⟨"SpiderTales$Reader", "readSum", "(I)V"⟩, 6), (⟨"SpiderTales$Reader", "readProduct", "(I)V"⟩, 6), (⟨"SpiderTales$Reader", "readPart", "(I)V"⟩, 6), (⟨"SpiderTales$Reader", "expect", "(I)V"⟩, 6)]
theorem lw_r2 : ∀ q ∈ lw_privs_2, lw_okq q := List.forall_mem_cons.mpr ⟨lw_p16, List.forall_mem_cons.mpr ⟨lw_p17, List.forall_mem_cons.mpr ⟨lw_p18, List.forall_mem_cons.mpr ⟨lw_p19, List.forall_mem_cons.mpr ⟨lw_p20, List.forall_mem_cons.mpr ⟨lw_p21, List.forall_mem_cons.mpr ⟨lw_p22, List.forall_mem_cons.mpr ⟨lw_p23, List.forall_mem_cons.mpr ⟨lw_p24, List.forall_mem_cons.mpr ⟨lw_p25, List.forall_mem_cons.mpr ⟨lw_p26, List.forall_mem_cons.mpr ⟨lw_p27, List.forall_mem_cons.mpr ⟨lw_p28, List.forall_mem_cons.mpr ⟨lw_p29, List.forall_mem_cons.mpr ⟨lw_p30, List.forall_mem_cons.mpr ⟨lw_p31, fun _ h => absurd h List.not_mem_nil⟩⟩⟩⟩⟩⟩⟩⟩⟩⟩⟩⟩⟩⟩⟩⟩
theorem lw_p32 : lw_okq (⟨"SpiderTales", "checkCreature", "(I)V"⟩, 14) := ⟨⟨by decide +kernel, by decide +kernel⟩, List.mem_of_getElem? (i := 28) (by decide +kernel), List.mem_of_getElem? (i := 1023) (by decide +kernel), List.mem_of_getElem? (i := 1024) (by decide +kernel)⟩
theorem lw_p33 : lw_okq (⟨"SpiderTales", "checkTrick", "(I)V"⟩, 14) := ⟨⟨by decide +kernel, by decide +kernel⟩, List.mem_of_getElem? (i := 28) (by decide +kernel), List.mem_of_getElem? (i := 1047) (by decide +kernel), List.mem_of_getElem? (i := 1048) (by decide +kernel)⟩
theorem lw_p34 : lw_okq (⟨"SpiderTales", "checkBelief", "(I)V"⟩, 14) := ⟨⟨by decide +kernel, by decide +kernel⟩, List.mem_of_getElem? (i := 28) (by decide +kernel), List.mem_of_getElem? (i := 1098) (by decide +kernel), List.mem_of_getElem? (i := 1099) (by decide +kernel)⟩
theorem lw_p35 : lw_okq (⟨"SpiderTales$Search", "improve", "(III)V"⟩, 17) := ⟨⟨by decide +kernel, by decide +kernel⟩, List.mem_of_getElem? (i := 222) (by decide +kernel), List.mem_of_getElem? (i := 1125) (by decide +kernel), List.mem_of_getElem? (i := 1126) (by decide +kernel)⟩
theorem lw_p36 : lw_okq (⟨"SpiderTales$Search", "cheapestOpen", "(I)I"⟩, 17) := ⟨⟨by decide +kernel, by decide +kernel⟩, List.mem_of_getElem? (i := 222) (by decide +kernel), List.mem_of_getElem? (i := 1129) (by decide +kernel), List.mem_of_getElem? (i := 1130) (by decide +kernel)⟩
theorem lw_p37 : lw_okq (⟨"SpiderTales$Search", "payFrom", "(III)I"⟩, 17) := ⟨⟨by decide +kernel, by decide +kernel⟩, List.mem_of_getElem? (i := 222) (by decide +kernel), List.mem_of_getElem? (i := 1135) (by decide +kernel), List.mem_of_getElem? (i := 1136) (by decide +kernel)⟩
theorem lw_p38 : lw_okq (⟨"SpiderTales$Orders", "helpOf", "(I)I"⟩, 6) := ⟨⟨by decide +kernel, by decide +kernel⟩, List.mem_of_getElem? (i := 281) (by decide +kernel), List.mem_of_getElem? (i := 1173) (by decide +kernel), List.mem_of_getElem? (i := 1174) (by decide +kernel)⟩
theorem lw_p39 : lw_okq (⟨"SpiderTales$Orders", "chooseFirst", "(III)V"⟩, 6) := ⟨⟨by decide +kernel, by decide +kernel⟩, List.mem_of_getElem? (i := 281) (by decide +kernel), List.mem_of_getElem? (i := 1179) (by decide +kernel), List.mem_of_getElem? (i := 1180) (by decide +kernel)⟩
theorem lw_p40 : lw_okq (⟨"SpiderTales", "checkAhead", "(II)V"⟩, 14) := ⟨⟨by decide +kernel, by decide +kernel⟩, List.mem_of_getElem? (i := 28) (by decide +kernel), List.mem_of_getElem? (i := 1196) (by decide +kernel), List.mem_of_getElem? (i := 1197) (by decide +kernel)⟩
theorem lw_p41 : lw_okq (⟨"SpiderTales$Future", "passDays", "(I)V"⟩, 4) := ⟨⟨by decide +kernel, by decide +kernel⟩, List.mem_of_getElem? (i := 331) (by decide +kernel), List.mem_of_getElem? (i := 1205) (by decide +kernel), List.mem_of_getElem? (i := 1206) (by decide +kernel)⟩
theorem lw_p42 : lw_okq (⟨"SpiderTales$Future", "keptWith", "(II)I"⟩, 4) := ⟨⟨by decide +kernel, by decide +kernel⟩, List.mem_of_getElem? (i := 331) (by decide +kernel), List.mem_of_getElem? (i := 1242) (by decide +kernel), List.mem_of_getElem? (i := 1243) (by decide +kernel)⟩
theorem lw_p43 : lw_okq (⟨"SpiderTales", "checkCreatureSet", "(I)V"⟩, 14) := ⟨⟨by decide +kernel, by decide +kernel⟩, List.mem_of_getElem? (i := 28) (by decide +kernel), List.mem_of_getElem? (i := 1259) (by decide +kernel), List.mem_of_getElem? (i := 1260) (by decide +kernel)⟩
theorem lw_p44 : lw_okq (⟨"SpiderTales$Sky", "greatestStrength", "(I)I"⟩, 7) := ⟨⟨by decide +kernel, by decide +kernel⟩, List.mem_of_getElem? (i := 36) (by decide +kernel), List.mem_of_getElem? (i := 1267) (by decide +kernel), List.mem_of_getElem? (i := 1268) (by decide +kernel)⟩
theorem lw_p45 : lw_okq (⟨"SpiderTales", "checkTale", "(I)V"⟩, 14) := ⟨⟨by decide +kernel, by decide +kernel⟩, List.mem_of_getElem? (i := 28) (by decide +kernel), List.mem_of_getElem? (i := 1291) (by decide +kernel), List.mem_of_getElem? (i := 1292) (by decide +kernel)⟩
theorem lw_p46 : lw_okq (⟨"SpiderTales", "checkWhat", "(II)V"⟩, 14) := ⟨⟨by decide +kernel, by decide +kernel⟩, List.mem_of_getElem? (i := 28) (by decide +kernel), List.mem_of_getElem? (i := 1295) (by decide +kernel), List.mem_of_getElem? (i := 1296) (by decide +kernel)⟩
theorem lw_p47 : lw_okq (⟨"SpiderTales", "checkTries", "(I)V"⟩, 14) := ⟨⟨by decide +kernel, by decide +kernel⟩, List.mem_of_getElem? (i := 28) (by decide +kernel), List.mem_of_getElem? (i := 1326) (by decide +kernel), List.mem_of_getElem? (i := 1327) (by decide +kernel)⟩
def lw_privs_3 : List (MethodName × Nat) := [(⟨"SpiderTales", "checkCreature", "(I)V"⟩, 14), (⟨"SpiderTales", "checkTrick", "(I)V"⟩, 14), (⟨"SpiderTales", "checkBelief", "(I)V"⟩, 14), (⟨"SpiderTales$Search", "improve", "(III)V"⟩, 17), (⟨"SpiderTales$Search", "cheapestOpen", "(I)I"⟩, 17), (⟨"SpiderTales$Search", "payFrom", "(III)I"⟩, 17), (⟨"SpiderTales$Orders", "helpOf", "(I)I"⟩, 6), (⟨"SpiderTales$Orders", "chooseFirst", "(III)V"⟩, 6), (⟨"SpiderTales", "checkAhead", "(II)V"⟩, 14), (⟨"SpiderTales$Future", "passDays", "(I)V"⟩, 4), (⟨"SpiderTales$Future", "keptWith", "(II)I"⟩, 4), (⟨"SpiderTales", "checkCreatureSet", "(I)V"⟩, 14), (⟨"SpiderTales$Sky", "greatestStrength", "(I)I"⟩, 7), (⟨"SpiderTales", "checkTale", "(I)V"⟩, 14), (⟨"SpiderTales", "checkWhat", "(II)V"⟩, 14), (⟨"SpiderTales", "checkTries", "(I)V"⟩, 14)]
theorem lw_r3 : ∀ q ∈ lw_privs_3, lw_okq q := List.forall_mem_cons.mpr ⟨lw_p32, List.forall_mem_cons.mpr ⟨lw_p33, List.forall_mem_cons.mpr ⟨lw_p34, List.forall_mem_cons.mpr ⟨lw_p35, List.forall_mem_cons.mpr ⟨lw_p36, List.forall_mem_cons.mpr ⟨lw_p37, List.forall_mem_cons.mpr ⟨lw_p38, List.forall_mem_cons.mpr ⟨lw_p39, List.forall_mem_cons.mpr ⟨lw_p40, List.forall_mem_cons.mpr ⟨lw_p41, List.forall_mem_cons.mpr ⟨lw_p42, List.forall_mem_cons.mpr ⟨lw_p43, List.forall_mem_cons.mpr ⟨lw_p44, List.forall_mem_cons.mpr ⟨lw_p45, List.forall_mem_cons.mpr ⟨lw_p46, List.forall_mem_cons.mpr ⟨lw_p47, fun _ h => absurd h List.not_mem_nil⟩⟩⟩⟩⟩⟩⟩⟩⟩⟩⟩⟩⟩⟩⟩⟩
theorem lw_p48 : lw_okq (⟨"SpiderTales$Rows", "behind", "(J)J"⟩, 6) := ⟨⟨by decide +kernel, by decide +kernel⟩, List.mem_of_getElem? (i := 306) (by decide +kernel), List.mem_of_getElem? (i := 1341) (by decide +kernel), List.mem_of_getElem? (i := 1342) (by decide +kernel)⟩
theorem lw_p49 : lw_okq (⟨"SpiderTales$Rows", "behindTry", "(II)I"⟩, 6) := ⟨⟨by decide +kernel, by decide +kernel⟩, List.mem_of_getElem? (i := 306) (by decide +kernel), List.mem_of_getElem? (i := 1346) (by decide +kernel), List.mem_of_getElem? (i := 1347) (by decide +kernel)⟩
theorem lw_p50 : lw_okq (⟨"SpiderTales$Rows", "waysFrom", "(II)I"⟩, 6) := ⟨⟨by decide +kernel, by decide +kernel⟩, List.mem_of_getElem? (i := 306) (by decide +kernel), List.mem_of_getElem? (i := 1353) (by decide +kernel), List.mem_of_getElem? (i := 1354) (by decide +kernel)⟩
theorem lw_p51 : lw_okq (⟨"SpiderTales$Rows", "firstTrick", "(II)I"⟩, 6) := ⟨⟨by decide +kernel, by decide +kernel⟩, List.mem_of_getElem? (i := 306) (by decide +kernel), List.mem_of_getElem? (i := 1366) (by decide +kernel), List.mem_of_getElem? (i := 1367) (by decide +kernel)⟩
theorem lw_p52 : lw_okq (⟨"SpiderTales", "checkHunter", "(I)V"⟩, 14) := ⟨⟨by decide +kernel, by decide +kernel⟩, List.mem_of_getElem? (i := 28) (by decide +kernel), List.mem_of_getElem? (i := 1393) (by decide +kernel), List.mem_of_getElem? (i := 1394) (by decide +kernel)⟩
theorem lw_p53 : lw_okq (⟨"SpiderTales$Sky", "rests", "(IIIII)Z"⟩, 7) := ⟨⟨by decide +kernel, by decide +kernel⟩, List.mem_of_getElem? (i := 36) (by decide +kernel), List.mem_of_getElem? (i := 1401) (by decide +kernel), List.mem_of_getElem? (i := 1402) (by decide +kernel)⟩
theorem lw_p54 : lw_okq (⟨"SpiderTales$Sky", "gain", "(IIIII)I"⟩, 7) := ⟨⟨by decide +kernel, by decide +kernel⟩, List.mem_of_getElem? (i := 36) (by decide +kernel), List.mem_of_getElem? (i := 1405) (by decide +kernel), List.mem_of_getElem? (i := 1406) (by decide +kernel)⟩
theorem lw_p55 : lw_okq (⟨"SpiderTales$Future", "letSpiderGo", "()V"⟩, 4) := ⟨⟨by decide +kernel, by decide +kernel⟩, List.mem_of_getElem? (i := 331) (by decide +kernel), List.mem_of_getElem? (i := 1424) (by decide +kernel), List.mem_of_getElem? (i := 1425) (by decide +kernel)⟩
theorem lw_p56 : lw_okq (⟨"SpiderTales$Future", "draw", "(I)I"⟩, 4) := ⟨⟨by decide +kernel, by decide +kernel⟩, List.mem_of_getElem? (i := 331) (by decide +kernel), List.mem_of_getElem? (i := 1428) (by decide +kernel), List.mem_of_getElem? (i := 1429) (by decide +kernel)⟩
theorem lw_p57 : lw_okq (⟨"SpiderTalesModel", "lays", "(I)V"⟩, 91) := ⟨⟨by decide +kernel, by decide +kernel⟩, List.mem_of_getElem? (i := 1490) (by decide +kernel), List.mem_of_getElem? (i := 1779) (by decide +kernel), List.mem_of_getElem? (i := 1780) (by decide +kernel)⟩
theorem lw_p58 : lw_okq (⟨"SpiderTalesModel", "right", "(ZI)Z"⟩, 91) := ⟨⟨by decide +kernel, by decide +kernel⟩, List.mem_of_getElem? (i := 1490) (by decide +kernel), List.mem_of_getElem? (i := 1787) (by decide +kernel), List.mem_of_getElem? (i := 1788) (by decide +kernel)⟩
theorem lw_p59 : lw_okq (⟨"SpiderTalesModel", "goes", "()V"⟩, 91) := ⟨⟨by decide +kernel, by decide +kernel⟩, List.mem_of_getElem? (i := 1490) (by decide +kernel), List.mem_of_getElem? (i := 1791) (by decide +kernel), List.mem_of_getElem? (i := 1792) (by decide +kernel)⟩
theorem lw_p60 : lw_okq (⟨"SpiderTalesModel", "byteAt", "(I)I"⟩, 91) := ⟨⟨by decide +kernel, by decide +kernel⟩, List.mem_of_getElem? (i := 1490) (by decide +kernel), List.mem_of_getElem? (i := 1795) (by decide +kernel), List.mem_of_getElem? (i := 1796) (by decide +kernel)⟩
theorem lw_p61 : lw_okq (⟨"SpiderTalesModel", "isGood", "()Z"⟩, 91) := ⟨⟨by decide +kernel, by decide +kernel⟩, List.mem_of_getElem? (i := 1490) (by decide +kernel), List.mem_of_getElem? (i := 1805) (by decide +kernel), List.mem_of_getElem? (i := 1806) (by decide +kernel)⟩
theorem lw_p62 : lw_okq (⟨"SpiderTalesModel", "line", "()V"⟩, 91) := ⟨⟨by decide +kernel, by decide +kernel⟩, List.mem_of_getElem? (i := 1490) (by decide +kernel), List.mem_of_getElem? (i := 1809) (by decide +kernel), List.mem_of_getElem? (i := 1810) (by decide +kernel)⟩
theorem lw_p63 : lw_okq (⟨"SpiderTalesModel", "knownWord", "()I"⟩, 91) := ⟨⟨by decide +kernel, by decide +kernel⟩, List.mem_of_getElem? (i := 1490) (by decide +kernel), List.mem_of_getElem? (i := 1813) (by decide +kernel), List.mem_of_getElem? (i := 1814) (by decide +kernel)⟩
def lw_privs_4 : List (MethodName × Nat) := [(⟨"SpiderTales$Rows", "behind", "(J)J"⟩, 6), (⟨"SpiderTales$Rows", "behindTry", "(II)I"⟩, 6), (⟨"SpiderTales$Rows", "waysFrom", "(II)I"⟩, 6), (⟨"SpiderTales$Rows", "firstTrick", "(II)I"⟩, 6), (⟨"SpiderTales", "checkHunter", "(I)V"⟩, 14), (⟨"SpiderTales$Sky", "rests", "(IIIII)Z"⟩, 7), (⟨"SpiderTales$Sky", "gain", "(IIIII)I"⟩, 7), (⟨"SpiderTales$Future", "letSpiderGo", "()V"⟩, 4), (⟨"SpiderTales$Future", "draw", "(I)I"⟩, 4), (⟨"SpiderTalesModel", "lays", "(I)V"⟩, 91), (⟨"SpiderTalesModel", "right", "(ZI)Z"⟩, 91), (⟨"SpiderTalesModel", "goes", "()V"⟩, 91), (⟨"SpiderTalesModel", "byteAt", "(I)I"⟩, 91), (⟨"SpiderTalesModel", "isGood", "()Z"⟩, 91), (⟨"SpiderTalesModel", "line", "()V"⟩, 91), (⟨"SpiderTalesModel", "knownWord", "()I"⟩, 91)]
theorem lw_r4 : ∀ q ∈ lw_privs_4, lw_okq q := List.forall_mem_cons.mpr ⟨lw_p48, List.forall_mem_cons.mpr ⟨lw_p49, List.forall_mem_cons.mpr ⟨lw_p50, List.forall_mem_cons.mpr ⟨lw_p51, List.forall_mem_cons.mpr ⟨lw_p52, List.forall_mem_cons.mpr ⟨lw_p53, List.forall_mem_cons.mpr ⟨lw_p54, List.forall_mem_cons.mpr ⟨lw_p55, List.forall_mem_cons.mpr ⟨lw_p56, List.forall_mem_cons.mpr ⟨lw_p57, List.forall_mem_cons.mpr ⟨lw_p58, List.forall_mem_cons.mpr ⟨lw_p59, List.forall_mem_cons.mpr ⟨lw_p60, List.forall_mem_cons.mpr ⟨lw_p61, List.forall_mem_cons.mpr ⟨lw_p62, List.forall_mem_cons.mpr ⟨lw_p63, fun _ h => absurd h List.not_mem_nil⟩⟩⟩⟩⟩⟩⟩⟩⟩⟩⟩⟩⟩⟩⟩⟩
theorem lw_p64 : lw_okq (⟨"SpiderTalesModel", "begins", "(ZZ)Z"⟩, 91) := ⟨⟨by decide +kernel, by decide +kernel⟩, List.mem_of_getElem? (i := 1490) (by decide +kernel), List.mem_of_getElem? (i := 1824) (by decide +kernel), List.mem_of_getElem? (i := 1825) (by decide +kernel)⟩
theorem lw_p65 : lw_okq (⟨"SpiderTalesModel", "wrong", "(I)V"⟩, 91) := ⟨⟨by decide +kernel, by decide +kernel⟩, List.mem_of_getElem? (i := 1490) (by decide +kernel), List.mem_of_getElem? (i := 1828) (by decide +kernel), List.mem_of_getElem? (i := 1829) (by decide +kernel)⟩
theorem lw_p66 : lw_okq (⟨"SpiderTalesModel", "readsCreature", "()V"⟩, 91) := ⟨⟨by decide +kernel, by decide +kernel⟩, List.mem_of_getElem? (i := 1490) (by decide +kernel), List.mem_of_getElem? (i := 1832) (by decide +kernel), List.mem_of_getElem? (i := 1833) (by decide +kernel)⟩
theorem lw_p67 : lw_okq (⟨"SpiderTalesModel", "number", "(II)I"⟩, 91) := ⟨⟨by decide +kernel, by decide +kernel⟩, List.mem_of_getElem? (i := 1490) (by decide +kernel), List.mem_of_getElem? (i := 1836) (by decide +kernel), List.mem_of_getElem? (i := 1837) (by decide +kernel)⟩
theorem lw_p68 : lw_okq (⟨"SpiderTalesModel", "readsTrick", "()V"⟩, 91) := ⟨⟨by decide +kernel, by decide +kernel⟩, List.mem_of_getElem? (i := 1490) (by decide +kernel), List.mem_of_getElem? (i := 1840) (by decide +kernel), List.mem_of_getElem? (i := 1841) (by decide +kernel)⟩
theorem lw_p69 : lw_okq (⟨"SpiderTalesModel", "readsHunter", "()V"⟩, 91) := ⟨⟨by decide +kernel, by decide +kernel⟩, List.mem_of_getElem? (i := 1490) (by decide +kernel), List.mem_of_getElem? (i := 1844) (by decide +kernel), List.mem_of_getElem? (i := 1845) (by decide +kernel)⟩
theorem lw_p70 : lw_okq (⟨"SpiderTalesModel", "expression", "()V"⟩, 91) := ⟨⟨by decide +kernel, by decide +kernel⟩, List.mem_of_getElem? (i := 1490) (by decide +kernel), List.mem_of_getElem? (i := 1848) (by decide +kernel), List.mem_of_getElem? (i := 1849) (by decide +kernel)⟩
theorem lw_p71 : lw_okq (⟨"SpiderTalesModel", "deeper", "()V"⟩, 91) := ⟨⟨by decide +kernel, by decide +kernel⟩, List.mem_of_getElem? (i := 1490) (by decide +kernel), List.mem_of_getElem? (i := 1852) (by decide +kernel), List.mem_of_getElem? (i := 1853) (by decide +kernel)⟩
theorem lw_p72 : lw_okq (⟨"SpiderTalesModel", "isSign", "(I)Z"⟩, 91) := ⟨⟨by decide +kernel, by decide +kernel⟩, List.mem_of_getElem? (i := 1490) (by decide +kernel), List.mem_of_getElem? (i := 1856) (by decide +kernel), List.mem_of_getElem? (i := 1857) (by decide +kernel)⟩
theorem lw_p73 : lw_okq (⟨"SpiderTalesModel", "operand", "(Z)V"⟩, 91) := ⟨⟨by decide +kernel, by decide +kernel⟩, List.mem_of_getElem? (i := 1490) (by decide +kernel), List.mem_of_getElem? (i := 1860) (by decide +kernel), List.mem_of_getElem? (i := 1861) (by decide +kernel)⟩
theorem lw_p74 : lw_okq (⟨"SpiderTalesModel", "waitsFor", "(I)V"⟩, 91) := ⟨⟨by decide +kernel, by decide +kernel⟩, List.mem_of_getElem? (i := 1490) (by decide +kernel), List.mem_of_getElem? (i := 1864) (by decide +kernel), List.mem_of_getElem? (i := 1865) (by decide +kernel)⟩
theorem lw_p75 : lw_okq (⟨"SpiderTalesModel", "part", "()V"⟩, 91) := ⟨⟨by decide +kernel, by decide +kernel⟩, List.mem_of_getElem? (i := 1490) (by decide +kernel), List.mem_of_getElem? (i := 1868) (by decide +kernel), List.mem_of_getElem? (i := 1869) (by decide +kernel)⟩
theorem lw_p76 : lw_okq (⟨"SpiderTalesModel", "puts", "(I)V"⟩, 91) := ⟨⟨by decide +kernel, by decide +kernel⟩, List.mem_of_getElem? (i := 1490) (by decide +kernel), List.mem_of_getElem? (i := 1872) (by decide +kernel), List.mem_of_getElem? (i := 1873) (by decide +kernel)⟩
theorem lw_p77 : lw_okq (⟨"SpiderTalesModel", "drops", "(I)V"⟩, 91) := ⟨⟨by decide +kernel, by decide +kernel⟩, List.mem_of_getElem? (i := 1490) (by decide +kernel), List.mem_of_getElem? (i := 1876) (by decide +kernel), List.mem_of_getElem? (i := 1877) (by decide +kernel)⟩
theorem lw_p78 : lw_okq (⟨"SpiderTalesModel", "isOpened", "()Z"⟩, 91) := ⟨⟨by decide +kernel, by decide +kernel⟩, List.mem_of_getElem? (i := 1490) (by decide +kernel), List.mem_of_getElem? (i := 1886) (by decide +kernel), List.mem_of_getElem? (i := 1887) (by decide +kernel)⟩
theorem lw_p79 : lw_okq (⟨"SpiderTalesModel", "closes", "()V"⟩, 91) := ⟨⟨by decide +kernel, by decide +kernel⟩, List.mem_of_getElem? (i := 1490) (by decide +kernel), List.mem_of_getElem? (i := 1890) (by decide +kernel), List.mem_of_getElem? (i := 1891) (by decide +kernel)⟩
def lw_privs_5 : List (MethodName × Nat) := [(⟨"SpiderTalesModel", "begins", "(ZZ)Z"⟩, 91), (⟨"SpiderTalesModel", "wrong", "(I)V"⟩, 91), (⟨"SpiderTalesModel", "readsCreature", "()V"⟩, 91), (⟨"SpiderTalesModel", "number", "(II)I"⟩, 91), (⟨"SpiderTalesModel", "readsTrick", "()V"⟩, 91), (⟨"SpiderTalesModel", "readsHunter", "()V"⟩, 91), (⟨"SpiderTalesModel", "expression", "()V"⟩, 91), (⟨"SpiderTalesModel", "deeper", "()V"⟩, 91), (⟨"SpiderTalesModel", "isSign", "(I)Z"⟩, 91), (⟨"SpiderTalesModel", "operand", "(Z)V"⟩, 91), (⟨"SpiderTalesModel", "waitsFor", "(I)V"⟩, 91), (⟨"SpiderTalesModel", "part", "()V"⟩, 91), (⟨"SpiderTalesModel", "puts", "(I)V"⟩, 91), (⟨"SpiderTalesModel", "drops", "(I)V"⟩, 91), (⟨"SpiderTalesModel", "isOpened", "()Z"⟩, 91), (⟨"SpiderTalesModel", "closes", "()V"⟩, 91)]
theorem lw_r5 : ∀ q ∈ lw_privs_5, lw_okq q := List.forall_mem_cons.mpr ⟨lw_p64, List.forall_mem_cons.mpr ⟨lw_p65, List.forall_mem_cons.mpr ⟨lw_p66, List.forall_mem_cons.mpr ⟨lw_p67, List.forall_mem_cons.mpr ⟨lw_p68, List.forall_mem_cons.mpr ⟨lw_p69, List.forall_mem_cons.mpr ⟨lw_p70, List.forall_mem_cons.mpr ⟨lw_p71, List.forall_mem_cons.mpr ⟨lw_p72, List.forall_mem_cons.mpr ⟨lw_p73, List.forall_mem_cons.mpr ⟨lw_p74, List.forall_mem_cons.mpr ⟨lw_p75, List.forall_mem_cons.mpr ⟨lw_p76, List.forall_mem_cons.mpr ⟨lw_p77, List.forall_mem_cons.mpr ⟨lw_p78, List.forall_mem_cons.mpr ⟨lw_p79, fun _ h => absurd h List.not_mem_nil⟩⟩⟩⟩⟩⟩⟩⟩⟩⟩⟩⟩⟩⟩⟩⟩
theorem lw_p80 : lw_okq (⟨"SpiderTalesModel", "need", "(Z)V"⟩, 91) := ⟨⟨by decide +kernel, by decide +kernel⟩, List.mem_of_getElem? (i := 1490) (by decide +kernel), List.mem_of_getElem? (i := 1894) (by decide +kernel), List.mem_of_getElem? (i := 1895) (by decide +kernel)⟩
theorem lw_p81 : lw_okq (⟨"SpiderTalesModel", "copies", "([I[I)V"⟩, 91) := ⟨⟨by decide +kernel, by decide +kernel⟩, List.mem_of_getElem? (i := 1490) (by decide +kernel), List.mem_of_getElem? (i := 1898) (by decide +kernel), List.mem_of_getElem? (i := 1899) (by decide +kernel)⟩
theorem lw_p82 : lw_okq (⟨"SpiderTalesModel", "those", "(II)I"⟩, 91) := ⟨⟨by decide +kernel, by decide +kernel⟩, List.mem_of_getElem? (i := 1490) (by decide +kernel), List.mem_of_getElem? (i := 1917) (by decide +kernel), List.mem_of_getElem? (i := 1918) (by decide +kernel)⟩
theorem lw_p83 : lw_okq (⟨"SpiderTalesModel", "helpOf", "(I)I"⟩, 91) := ⟨⟨by decide +kernel, by decide +kernel⟩, List.mem_of_getElem? (i := 1490) (by decide +kernel), List.mem_of_getElem? (i := 1921) (by decide +kernel), List.mem_of_getElem? (i := 1922) (by decide +kernel)⟩
theorem lw_p84 : lw_okq (⟨"SpiderTalesModel", "isCreature", "(I)Z"⟩, 91) := ⟨⟨by decide +kernel, by decide +kernel⟩, List.mem_of_getElem? (i := 1490) (by decide +kernel), List.mem_of_getElem? (i := 1929) (by decide +kernel), List.mem_of_getElem? (i := 1930) (by decide +kernel)⟩
theorem lw_p85 : lw_okq (⟨"SpiderTalesModel", "isWhat", "(II)Z"⟩, 91) := ⟨⟨by decide +kernel, by decide +kernel⟩, List.mem_of_getElem? (i := 1490) (by decide +kernel), List.mem_of_getElem? (i := 1933) (by decide +kernel), List.mem_of_getElem? (i := 1934) (by decide +kernel)⟩
theorem lw_p86 : lw_okq (⟨"SpiderTalesModel", "keys", "(I)I"⟩, 91) := ⟨⟨by decide +kernel, by decide +kernel⟩, List.mem_of_getElem? (i := 1490) (by decide +kernel), List.mem_of_getElem? (i := 1937) (by decide +kernel), List.mem_of_getElem? (i := 1938) (by decide +kernel)⟩
theorem lw_p87 : lw_okq (⟨"SpiderTalesModel", "doesWork", "(II)Z"⟩, 91) := ⟨⟨by decide +kernel, by decide +kernel⟩, List.mem_of_getElem? (i := 1490) (by decide +kernel), List.mem_of_getElem? (i := 1941) (by decide +kernel), List.mem_of_getElem? (i := 1942) (by decide +kernel)⟩
theorem lw_p88 : lw_okq (⟨"SpiderTalesModel", "isTrick", "(I)Z"⟩, 91) := ⟨⟨by decide +kernel, by decide +kernel⟩, List.mem_of_getElem? (i := 1490) (by decide +kernel), List.mem_of_getElem? (i := 1949) (by decide +kernel), List.mem_of_getElem? (i := 1950) (by decide +kernel)⟩
theorem lw_p89 : lw_okq (⟨"SpiderTalesModel", "mayTry", "(III)Z"⟩, 91) := ⟨⟨by decide +kernel, by decide +kernel⟩, List.mem_of_getElem? (i := 1490) (by decide +kernel), List.mem_of_getElem? (i := 1957) (by decide +kernel), List.mem_of_getElem? (i := 1958) (by decide +kernel)⟩
theorem lw_p90 : lw_okq (⟨"SpiderTalesModel", "refuses", "(I)I"⟩, 91) := ⟨⟨by decide +kernel, by decide +kernel⟩, List.mem_of_getElem? (i := 1490) (by decide +kernel), List.mem_of_getElem? (i := 1961) (by decide +kernel), List.mem_of_getElem? (i := 1962) (by decide +kernel)⟩
theorem lw_p91 : lw_okq (⟨"SpiderTalesModel", "keeps", "()V"⟩, 91) := ⟨⟨by decide +kernel, by decide +kernel⟩, List.mem_of_getElem? (i := 1490) (by decide +kernel), List.mem_of_getElem? (i := 1965) (by decide +kernel), List.mem_of_getElem? (i := 1966) (by decide +kernel)⟩
theorem lw_p92 : lw_okq (⟨"SpiderTalesModel", "attempts", "(III)I"⟩, 91) := ⟨⟨by decide +kernel, by decide +kernel⟩, List.mem_of_getElem? (i := 1490) (by decide +kernel), List.mem_of_getElem? (i := 1969) (by decide +kernel), List.mem_of_getElem? (i := 1970) (by decide +kernel)⟩
theorem lw_p93 : lw_okq (⟨"SpiderTalesModel", "believes", "(II)I"⟩, 91) := ⟨⟨by decide +kernel, by decide +kernel⟩, List.mem_of_getElem? (i := 1490) (by decide +kernel), List.mem_of_getElem? (i := 1976) (by decide +kernel), List.mem_of_getElem? (i := 1977) (by decide +kernel)⟩
theorem lw_p94 : lw_okq (⟨"SpiderTalesModel", "corded", "(III)I"⟩, 91) := ⟨⟨by decide +kernel, by decide +kernel⟩, List.mem_of_getElem? (i := 1490) (by decide +kernel), List.mem_of_getElem? (i := 1980) (by decide +kernel), List.mem_of_getElem? (i := 1981) (by decide +kernel)⟩
theorem lw_p95 : lw_okq (⟨"SpiderTalesModel", "isBound", "(IIIII)Z"⟩, 91) := ⟨⟨by decide +kernel, by decide +kernel⟩, List.mem_of_getElem? (i := 1490) (by decide +kernel), List.mem_of_getElem? (i := 1984) (by decide +kernel), List.mem_of_getElem? (i := 1985) (by decide +kernel)⟩
def lw_privs_6 : List (MethodName × Nat) := [(⟨"SpiderTalesModel", "need", "(Z)V"⟩, 91), (⟨"SpiderTalesModel", "copies", "([I[I)V"⟩, 91), (⟨"SpiderTalesModel", "those", "(II)I"⟩, 91), (⟨"SpiderTalesModel", "helpOf", "(I)I"⟩, 91), (⟨"SpiderTalesModel", "isCreature", "(I)Z"⟩, 91), (⟨"SpiderTalesModel", "isWhat", "(II)Z"⟩, 91), (⟨"SpiderTalesModel", "keys", "(I)I"⟩, 91), (⟨"SpiderTalesModel", "doesWork", "(II)Z"⟩, 91), (⟨"SpiderTalesModel", "isTrick", "(I)Z"⟩, 91), (⟨"SpiderTalesModel", "mayTry", "(III)Z"⟩, 91), (⟨"SpiderTalesModel", "refuses", "(I)I"⟩, 91), (⟨"SpiderTalesModel", "keeps", "()V"⟩, 91), (⟨"SpiderTalesModel", "attempts", "(III)I"⟩, 91), (⟨"SpiderTalesModel", "believes", "(II)I"⟩, 91), (⟨"SpiderTalesModel", "corded", "(III)I"⟩, 91), (⟨"SpiderTalesModel", "isBound", "(IIIII)Z"⟩, 91)]
theorem lw_r6 : ∀ q ∈ lw_privs_6, lw_okq q := List.forall_mem_cons.mpr ⟨lw_p80, List.forall_mem_cons.mpr ⟨lw_p81, List.forall_mem_cons.mpr ⟨lw_p82, List.forall_mem_cons.mpr ⟨lw_p83, List.forall_mem_cons.mpr ⟨lw_p84, List.forall_mem_cons.mpr ⟨lw_p85, List.forall_mem_cons.mpr ⟨lw_p86, List.forall_mem_cons.mpr ⟨lw_p87, List.forall_mem_cons.mpr ⟨lw_p88, List.forall_mem_cons.mpr ⟨lw_p89, List.forall_mem_cons.mpr ⟨lw_p90, List.forall_mem_cons.mpr ⟨lw_p91, List.forall_mem_cons.mpr ⟨lw_p92, List.forall_mem_cons.mpr ⟨lw_p93, List.forall_mem_cons.mpr ⟨lw_p94, List.forall_mem_cons.mpr ⟨lw_p95, fun _ h => absurd h List.not_mem_nil⟩⟩⟩⟩⟩⟩⟩⟩⟩⟩⟩⟩⟩⟩⟩⟩
theorem lw_p96 : lw_okq (⟨"SpiderTalesModel", "reckons", "(I)I"⟩, 91) := ⟨⟨by decide +kernel, by decide +kernel⟩, List.mem_of_getElem? (i := 1490) (by decide +kernel), List.mem_of_getElem? (i := 1991) (by decide +kernel), List.mem_of_getElem? (i := 1992) (by decide +kernel)⟩
theorem lw_p97 : lw_okq (⟨"SpiderTalesModel", "dayGoes", "(I)V"⟩, 91) := ⟨⟨by decide +kernel, by decide +kernel⟩, List.mem_of_getElem? (i := 1490) (by decide +kernel), List.mem_of_getElem? (i := 2002) (by decide +kernel), List.mem_of_getElem? (i := 2003) (by decide +kernel)⟩
theorem lw_p98 : lw_okq (⟨"SpiderTalesModel", "steals", "(I)V"⟩, 91) := ⟨⟨by decide +kernel, by decide +kernel⟩, List.mem_of_getElem? (i := 1490) (by decide +kernel), List.mem_of_getElem? (i := 2006) (by decide +kernel), List.mem_of_getElem? (i := 2007) (by decide +kernel)⟩
theorem lw_p99 : lw_okq (⟨"SpiderTalesModel", "fewest", "(II)I"⟩, 91) := ⟨⟨by decide +kernel, by decide +kernel⟩, List.mem_of_getElem? (i := 1490) (by decide +kernel), List.mem_of_getElem? (i := 2026) (by decide +kernel), List.mem_of_getElem? (i := 2027) (by decide +kernel)⟩
theorem lw_p100 : lw_okq (⟨"SpiderTalesModel", "starts", "(I)V"⟩, 91) := ⟨⟨by decide +kernel, by decide +kernel⟩, List.mem_of_getElem? (i := 1490) (by decide +kernel), List.mem_of_getElem? (i := 2030) (by decide +kernel), List.mem_of_getElem? (i := 2031) (by decide +kernel)⟩
theorem lw_p101 : lw_okq (⟨"SpiderTalesModel", "comes", "(III)V"⟩, 91) := ⟨⟨by decide +kernel, by decide +kernel⟩, List.mem_of_getElem? (i := 1490) (by decide +kernel), List.mem_of_getElem? (i := 2037) (by decide +kernel), List.mem_of_getElem? (i := 2038) (by decide +kernel)⟩
theorem lw_p102 : lw_okq (⟨"SpiderTalesModel", "laysRow", "(II)I"⟩, 91) := ⟨⟨by decide +kernel, by decide +kernel⟩, List.mem_of_getElem? (i := 1490) (by decide +kernel), List.mem_of_getElem? (i := 2041) (by decide +kernel), List.mem_of_getElem? (i := 2042) (by decide +kernel)⟩
theorem lw_p103 : lw_okq (⟨"SpiderTalesModel", "cheapens", "(IIII)V"⟩, 91) := ⟨⟨by decide +kernel, by decide +kernel⟩, List.mem_of_getElem? (i := 1490) (by decide +kernel), List.mem_of_getElem? (i := 2050) (by decide +kernel), List.mem_of_getElem? (i := 2051) (by decide +kernel)⟩
theorem lw_p104 : lw_okq (⟨"SpiderTalesModel", "laysOrder", "(I)V"⟩, 91) := ⟨⟨by decide +kernel, by decide +kernel⟩, List.mem_of_getElem? (i := 1490) (by decide +kernel), List.mem_of_getElem? (i := 2066) (by decide +kernel), List.mem_of_getElem? (i := 2067) (by decide +kernel)⟩
theorem lw_p105 : lw_okq (⟨"SpiderTalesModel", "tries", "()V"⟩, 91) := ⟨⟨by decide +kernel, by decide +kernel⟩, List.mem_of_getElem? (i := 1490) (by decide +kernel), List.mem_of_getElem? (i := 2074) (by decide +kernel), List.mem_of_getElem? (i := 2075) (by decide +kernel)⟩
theorem lw_p106 : lw_okq (⟨"SpiderTalesModel", "daysGo", "(I)V"⟩, 91) := ⟨⟨by decide +kernel, by decide +kernel⟩, List.mem_of_getElem? (i := 1490) (by decide +kernel), List.mem_of_getElem? (i := 2078) (by decide +kernel), List.mem_of_getElem? (i := 2079) (by decide +kernel)⟩
theorem lw_p107 : lw_okq (⟨"SpiderTalesModel", "keptBy", "(II)I"⟩, 91) := ⟨⟨by decide +kernel, by decide +kernel⟩, List.mem_of_getElem? (i := 1490) (by decide +kernel), List.mem_of_getElem? (i := 2094) (by decide +kernel), List.mem_of_getElem? (i := 2095) (by decide +kernel)⟩
theorem lw_p108 : lw_okq (⟨"SpiderTalesModel", "isSet", "(I)Z"⟩, 91) := ⟨⟨by decide +kernel, by decide +kernel⟩, List.mem_of_getElem? (i := 1490) (by decide +kernel), List.mem_of_getElem? (i := 2102) (by decide +kernel), List.mem_of_getElem? (i := 2103) (by decide +kernel)⟩
theorem lw_p109 : lw_okq (⟨"SpiderTalesModel", "payersOf", "(II)I"⟩, 91) := ⟨⟨by decide +kernel, by decide +kernel⟩, List.mem_of_getElem? (i := 1490) (by decide +kernel), List.mem_of_getElem? (i := 2106) (by decide +kernel), List.mem_of_getElem? (i := 2107) (by decide +kernel)⟩
theorem lw_p110 : lw_okq (⟨"SpiderTalesModel", "partsOf", "(I)I"⟩, 91) := ⟨⟨by decide +kernel, by decide +kernel⟩, List.mem_of_getElem? (i := 1490) (by decide +kernel), List.mem_of_getElem? (i := 2118) (by decide +kernel), List.mem_of_getElem? (i := 2119) (by decide +kernel)⟩
theorem lw_p111 : lw_okq (⟨"SpiderTalesModel", "isTries", "(I)Z"⟩, 91) := ⟨⟨by decide +kernel, by decide +kernel⟩, List.mem_of_getElem? (i := 1490) (by decide +kernel), List.mem_of_getElem? (i := 2138) (by decide +kernel), List.mem_of_getElem? (i := 2139) (by decide +kernel)⟩
def lw_privs_7 : List (MethodName × Nat) := [(⟨"SpiderTalesModel", "reckons", "(I)I"⟩, 91), (⟨"SpiderTalesModel", "dayGoes", "(I)V"⟩, 91), (⟨"SpiderTalesModel", "steals", "(I)V"⟩, 91), (⟨"SpiderTalesModel", "fewest", "(II)I"⟩, 91), (⟨"SpiderTalesModel", "starts", "(I)V"⟩, 91), (⟨"SpiderTalesModel", "comes", "(III)V"⟩, 91), (⟨"SpiderTalesModel", "laysRow", "(II)I"⟩, 91), (⟨"SpiderTalesModel", "cheapens", "(IIII)V"⟩, 91), (⟨"SpiderTalesModel", "laysOrder", "(I)V"⟩, 91), (⟨"SpiderTalesModel", "tries", "()V"⟩, 91), (⟨"SpiderTalesModel", "daysGo", "(I)V"⟩, 91), (⟨"SpiderTalesModel", "keptBy", "(II)I"⟩, 91), (⟨"SpiderTalesModel", "isSet", "(I)Z"⟩, 91), (⟨"SpiderTalesModel", "payersOf", "(II)I"⟩, 91), (⟨"SpiderTalesModel", "partsOf", "(I)I"⟩, 91), (⟨"SpiderTalesModel", "isTries", "(I)Z"⟩, 91)]
theorem lw_r7 : ∀ q ∈ lw_privs_7, lw_okq q := List.forall_mem_cons.mpr ⟨lw_p96, List.forall_mem_cons.mpr ⟨lw_p97, List.forall_mem_cons.mpr ⟨lw_p98, List.forall_mem_cons.mpr ⟨lw_p99, List.forall_mem_cons.mpr ⟨lw_p100, List.forall_mem_cons.mpr ⟨lw_p101, List.forall_mem_cons.mpr ⟨lw_p102, List.forall_mem_cons.mpr ⟨lw_p103, List.forall_mem_cons.mpr ⟨lw_p104, List.forall_mem_cons.mpr ⟨lw_p105, List.forall_mem_cons.mpr ⟨lw_p106, List.forall_mem_cons.mpr ⟨lw_p107, List.forall_mem_cons.mpr ⟨lw_p108, List.forall_mem_cons.mpr ⟨lw_p109, List.forall_mem_cons.mpr ⟨lw_p110, List.forall_mem_cons.mpr ⟨lw_p111, fun _ h => absurd h List.not_mem_nil⟩⟩⟩⟩⟩⟩⟩⟩⟩⟩⟩⟩⟩⟩⟩⟩
theorem lw_p112 : lw_okq (⟨"SpiderTalesModel", "isMarked", "(III)Z"⟩, 91) := ⟨⟨by decide +kernel, by decide +kernel⟩, List.mem_of_getElem? (i := 1490) (by decide +kernel), List.mem_of_getElem? (i := 2145) (by decide +kernel), List.mem_of_getElem? (i := 2146) (by decide +kernel)⟩
theorem lw_p113 : lw_okq (⟨"SpiderTalesModel", "rowNumber", "(I)I"⟩, 91) := ⟨⟨by decide +kernel, by decide +kernel⟩, List.mem_of_getElem? (i := 1490) (by decide +kernel), List.mem_of_getElem? (i := 2149) (by decide +kernel), List.mem_of_getElem? (i := 2150) (by decide +kernel)⟩
theorem lw_p114 : lw_okq (⟨"SpiderTalesModel", "gains", "(IIIII)I"⟩, 91) := ⟨⟨by decide +kernel, by decide +kernel⟩, List.mem_of_getElem? (i := 1490) (by decide +kernel), List.mem_of_getElem? (i := 2161) (by decide +kernel), List.mem_of_getElem? (i := 2162) (by decide +kernel)⟩
theorem lw_p115 : lw_okq (⟨"SpiderTalesModel", "spiderGoes", "()V"⟩, 91) := ⟨⟨by decide +kernel, by decide +kernel⟩, List.mem_of_getElem? (i := 1490) (by decide +kernel), List.mem_of_getElem? (i := 2169) (by decide +kernel), List.mem_of_getElem? (i := 2170) (by decide +kernel)⟩
theorem lw_p116 : lw_okq (⟨"SpiderTalesModel", "draw", "(I)I"⟩, 91) := ⟨⟨by decide +kernel, by decide +kernel⟩, List.mem_of_getElem? (i := 1490) (by decide +kernel), List.mem_of_getElem? (i := 2173) (by decide +kernel), List.mem_of_getElem? (i := 2174) (by decide +kernel)⟩
theorem lw_p117 : lw_okq (⟨"SpiderTalesModel", "explores", "(I)V"⟩, 91) := ⟨⟨by decide +kernel, by decide +kernel⟩, List.mem_of_getElem? (i := 1490) (by decide +kernel), List.mem_of_getElem? (i := 2190) (by decide +kernel), List.mem_of_getElem? (i := 2191) (by decide +kernel)⟩
def lw_privs_8 : List (MethodName × Nat) := [(⟨"SpiderTalesModel", "isMarked", "(III)Z"⟩, 91), (⟨"SpiderTalesModel", "rowNumber", "(I)I"⟩, 91), (⟨"SpiderTalesModel", "gains", "(IIIII)I"⟩, 91), (⟨"SpiderTalesModel", "spiderGoes", "()V"⟩, 91), (⟨"SpiderTalesModel", "draw", "(I)I"⟩, 91), (⟨"SpiderTalesModel", "explores", "(I)V"⟩, 91)]
theorem lw_r8 : ∀ q ∈ lw_privs_8, lw_okq q := List.forall_mem_cons.mpr ⟨lw_p112, List.forall_mem_cons.mpr ⟨lw_p113, List.forall_mem_cons.mpr ⟨lw_p114, List.forall_mem_cons.mpr ⟨lw_p115, List.forall_mem_cons.mpr ⟨lw_p116, List.forall_mem_cons.mpr ⟨lw_p117, fun _ h => absurd h List.not_mem_nil⟩⟩⟩⟩⟩⟩
def lw_privs : List (MethodName × Nat) := lw_privs_1 ++ (lw_privs_2 ++ (lw_privs_3 ++ (lw_privs_4 ++ (lw_privs_5 ++ (lw_privs_6 ++ (lw_privs_7 ++ (lw_privs_8)))))))
def lw_tbl : List Cond := k2_sels lw_privs ++ tables_1
theorem lw_privs_ok : ∀ q ∈ lw_privs, lw_okq q := by
  show ∀ q ∈ lw_privs_1 ++ (lw_privs_2 ++ (lw_privs_3 ++ (lw_privs_4 ++ (lw_privs_5 ++ (lw_privs_6 ++ (lw_privs_7 ++ (lw_privs_8))))))), lw_okq q
  exact List.forall_mem_append.mpr ⟨lw_r1, List.forall_mem_append.mpr ⟨lw_r2, List.forall_mem_append.mpr ⟨lw_r3, List.forall_mem_append.mpr ⟨lw_r4, List.forall_mem_append.mpr ⟨lw_r5, List.forall_mem_append.mpr ⟨lw_r6, List.forall_mem_append.mpr ⟨lw_r7, lw_r8⟩⟩⟩⟩⟩⟩⟩
end
section
/-! ===== BEGIN words of one list among another's, by their places ===== -/
theorem goodIn_r {big : List Cond} (ws : List Cond) (ps : List Nat) (hp : ws = ps.filterMap (fun i => big[i]?)) (h : ws.all goodWord = true) : GoodIn big ws := by
  intro w hw
  have h1 := List.all_eq_true.mp h w hw
  rw [hp] at hw
  obtain ⟨i, -, hi⟩ := List.mem_filterMap.mp hw
  have hm : w ∈ big := by first | exact List.mem_of_getElem? hi | exact List.getElem?_mem hi
  exact ⟨hm, good_of_word h1⟩
theorem goodIn_app {big a b : List Cond} (ha : GoodIn big a) (hb : GoodIn big b) : GoodIn big (a ++ b) := fun w h => (List.mem_append.mp h).elim (ha w) (hb w)
theorem goodIn_ca {big a b : List Cond} {c : Cond} (ha : GoodIn big (c :: a)) (hb : GoodIn big b) : GoodIn big (c :: (a ++ b)) := fun w h => (List.mem_cons.mp h).elim (fun e => ha w (List.mem_cons.mpr (Or.inl e))) (fun h => (List.mem_append.mp h).elim (fun h => ha w (List.mem_cons.mpr (Or.inr h))) (hb w))
theorem goodIn_sub {big ws : List Cond} (hm : ∀ w ∈ ws, w ∈ big) (h : ws.all goodWord = true) : GoodIn big ws := fun w hw => ⟨hm w hw, good_of_word (List.all_eq_true.mp h w hw)⟩
/-! ===== END ===== -/
/-! ===== BEGIN exceptions that leave a method, and their catching by the caller (launches without stack traces) ===== -/
section VXA
/-! The laws vx_back, vx_callV, vx_callS, vx_callSW, vx_throw0, vx_throwS follow proofs of the library, with one case more: JvmDerived/Free/Laws.lean (Back.of_free), Shelf42/LK1.lean (callV, callS), Shelf/KitTraced.lean (throwNew0V, throwNewS). -/
/-- where a method has thrown q: the class by its name, the cell, what was written, the world -/
def vx_T (XC : String → State → State → Prop) (st : State) (q : Addr) (t : State) (mc ms : Nat) (free : Addr → Prop) : Prop :=
  ∃ (E : String) (ce : Cell) (L : List Loc), XC E st t ∧ t.heap[q]? = some ce ∧ ce.vm = .none ∧ st.vm.findClass E = some ce.cls ∧ st.WarmedH t.vm ∧ st.sameButNew ({ t with vm := st.vm } : State) L mc ms ∧ ∀ z ∈ L, free z.base
def vx_Q (Qc : Array Value → State → Outcome → State → Prop) (XC : String → State → State → Prop) (mc ms : Nat) (free : Addr → Prop) : Array Value → State → Outcome → State → Prop := fun a st o t =>
  (Qc a st o t ∧ ∃ L, FrameEnd st o t L mc ms ∧ ∀ q ∈ L, free q.base) ∨ ∃ q, o = .threw q ∧ vx_T XC st q t mc ms free
/-- a callee that returns or throws -/
def vx_Met (l : Launch) (y : MethodName) (ws : List Cond) (rm : Room) (Pc : Array Value → State → Prop) (Qc : Array Value → State → Outcome → State → Prop) (XC : String → State → State → Prop) (mc ms : Nat) (free : Addr → Prop) : Prop :=
  MetFree l y (headSpec ws rm) Pc (fun _ _ _ _ _ => True) (vx_Q Qc XC mc ms free)
def vx_Post (XC : String → State → State → Prop) (mc ms : Nat) (free : Addr → Prop) : Pt → Array Value → Addr → Pt → Prop := fun A a q B =>
  ∃ (g : JFrame) (mk : MethodId) (t : State) (L : List Loc) (E : String) (ce : Cell), B.U.heap = t.heap ∧ B.U.vm = t.vm ∧ XC E (A.U.calling g mk a) t ∧ t.heap[q]? = some ce ∧ ce.vm = .none ∧ A.U.vm.findClass E = some ce.cls ∧ B.locs = A.locs ++ L ∧ (∀ z ∈ L, free z.base) ∧ B.cells = A.cells + mc ∧ B.slots = A.slots + ms
def vx_Back (l : Launch) (R : Room) (p : Program) (e : Env) (below : List Frame) (s : State) (sargs : Array Value) (y : MethodName) (len W9 : Nat)
    (Pre : Pt → Array Value → Prop) (Post : Pt → Array Value → Option Value → Pt → Prop) (PostX : Pt → Array Value → Addr → Pt → Prop) : Prop :=
  ∀ (m : MethodId) (meth : Method) (c : Code) (A : Pt) (g : JFrame) (ig : Instr) (mk : MethodId) (a : Array Value),
    Stand p l e R s m sargs below meth c A.U A.locs A.cells A.slots → g.method = m → g.locals.size = c.maxLocals → decode c.code g.pc = .ok (ig, len) →
    2 * g.monitorRoom + (g.stack.map fun v => v.category).sum ≤ W9 → A.U.methodNamed? y = some mk → Pre A a →
    (∃ (v : Option Value) (B : Pt), Stand p l e R s m sargs below meth c B.U B.locs B.cells B.slots ∧ Post A a v B ∧
      Steps p.tables e below (doInvoke e (A.U.setTop g) [] mk a).1 (B.U.setTop { g with pc := g.pc + len, stack := v.toList ++ g.stack })) ∨
    (∃ (q : Addr) (B : Pt), Stand p l e R s m sargs below meth c B.U B.locs B.cells B.slots ∧ PostX A a q B ∧
      Steps p.tables e below (doInvoke e (A.U.setTop g) [] mk a).1 ((B.U.setTop g).pushFrame (.throwing q)))
section Payer
variable {l : Launch} {R : Room} {p : Program} {e : Env} {below : List Frame} {s : State} {sargs : Array Value} {y : MethodName} {len W9 : Nat}
theorem vx_back {ws : List Cond} {rm : Room} {Pc : Array Value → State → Prop} {Qc : Array Value → State → Outcome → State → Prop} {XC : String → State → State → Prop} {mc ms : Nat} {free : Addr → Prop} {bytes : ByteArray} {maxL : Nat} {ret : Option FieldType}
    (hM : vx_Met l y ws rm Pc Qc XC mc ms free) (hblind : FrameBlind Pc) (hrc : rm.cells = mc) (hrs : rm.slots = ms)
    (hframes : rm.frames + 1 ≤ R.frames) (hlocals : W9 + (maxL + 11) + rm.locals ≤ R.locals)
    (hws : ∀ w ∈ ws, ∀ a' U, s.WarmedH U.vm → w.before a' U = true) (hcode : Cond.code y bytes maxL ret ∈ ws) (hinit : ∀ a' U, s.WarmedH U.vm → (Cond.initialized y.cls).before a' U = true) :
    vx_Back l R p e below s sargs y len W9 (PreOf R mc ms Pc) (PostOf Qc mc ms free) (vx_Post XC mc ms free) := by
  intro m meth c A g ig mk a X hg hsize hdg hW hn hp
  have h1 : (headSpec ws rm).pre.before a A.U = true := atoms_intro fun w hw => hws w hw _ _ X.warmed
  have h2 : (Cond.code y bytes maxL ret).before a A.U = true := hws _ hcode _ _ X.warmed
  have h3 : (Cond.initialized y.cls).before a A.U = true := hinit _ _ X.warmed
  have h4 : A.cells + (headSpec ws rm).room.cells ≤ R.cells := by rw [show (headSpec ws rm).room.cells = mc from hrc]; exact hp.1
  have h5 : A.slots + (headSpec ws rm).room.slots ≤ R.slots := by rw [show (headSpec ws rm).room.slots = ms from hrs]; exact hp.2.1
  have hPc : Pc a (A.U.calling g mk a) := hblind _ _ _ _ hp.2.2
  obtain ⟨U, Ls, c0, s0⟩ := A
  dsimp only [Pt.U, Pt.locs, Pt.cells, Pt.slots] at h1 h2 h3 h4 h5 X hn hPc ⊢
  obtain ⟨methY, cY, hmY, hcY, -, hlY, -, -, -, -⟩ := Cond.code_spec hn h2
  obtain ⟨kY, hkY, -⟩ := className_of_methodNamed hn
  have hinitY : kY.init = .initialized := Cond.initialized_spec (findClass_of_methodNamed hn) hkY h3
  have h : At U g.method c below := by rw [hg]; exact X.here
  have hlocals9 : W9 + (maxL + 11) + (headSpec ws rm).room.locals ≤ R.locals := hlocals
  have happ : (headSpec ws rm).appliesLoose y e.platform (U.calling g mk a) = true :=
    Spec.appliesLoose_calling (g := g) h hdg hn hkY hinitY
      (X.room_calling (g := g) (R' := (headSpec ws rm).room) hsize hmY hcY hframes (by rw [hlY]; omega) h4 h5) h1
  obtain ⟨mid, hmid⟩ := h.above
  have hfr : (U.setTop g).frames = (.java g :: mid) ++ below := by rw [State.frames_setTop' g h.top, hmid]; rfl
  obtain ⟨o, s₂, hsteps, -, hend, hq⟩ := Steps.callFree hM p X.admits X.cas X.clock (acts := []) hfr happ hPc trivial
  have hq' : vx_Q Qc XC mc ms free a (U.calling g mk a) o s₂ := hq
  rw [State.frames_setTop' g h.top] at hend
  obtain ⟨g₀, hg0⟩ := Option.isSome_iff_exists.mp h.top
  obtain ⟨r, hr⟩ := State.topJava?_eq_some.mp hg0
  have hr' : (({ U with heap := s₂.heap, slotsUsed := s₂.slotsUsed } : State).setVm s₂.vm).frames = .java g₀ :: r := hr
  rcases hq' with ⟨hqc, L, hfe, hL⟩ | ⟨q, rfl, E, ce, L, hx, hce, hcv, hcl, hW₂, hsm, hL⟩
  · obtain ⟨⟨v, rfl⟩, hW₂, e2, q2, q3, q4, q5, q6⟩ := id hfe
    have e3 : s₂ = ({ (U.calling g mk a).setFrames s₂.frames with heap := s₂.heap, slotsUsed := s₂.slotsUsed } : State).setVm s₂.vm := by
      have : s₂ = ({ s₂ with vm := (U.calling g mk a).vm } : State).setVm s₂.vm := rfl
      rw [e2] at this
      exact this
    obtain ⟨c₂, i₂, len₂, hc₂, hd₂, hf₂⟩ := hend
    have hW' : U.WarmedH s₂.vm := hW₂
    have hcc : c₂ = c := by
      have h1 : s₂.code? g.method = U.code? g.method := by
        rw [State.code?_eq, State.code?_eq, hW'.alike.method?]
      exact Option.some.inj (hc₂.symm.trans (h1.trans h.code))
    subst hcc
    have hlen : len₂ = len := by rw [hdg] at hd₂; cases hd₂; rfl
    subst hlen
    have hs₂ : s₂ = (({ U with heap := s₂.heap, slotsUsed := s₂.slotsUsed } : State).setVm s₂.vm).setTop { g with pc := g.pc + len₂, stack := v.toList ++ g.stack } := by
      refine e3.trans ?_
      rw [hf₂, State.calling_eq h.top, State.setFrames_setFrames, State.setTop_of_frames _ hr', hr]
      rfl
    have hsame : U.sameButNew ({ U with heap := s₂.heap, slotsUsed := s₂.slotsUsed } : State) L mc ms := by
      refine ⟨?_, q2, q3, q4, q5, q6⟩
      obtain ⟨t, ht, -⟩ := State.frames_cons hr
      show ({ U with heap := s₂.heap, slotsUsed := s₂.slotsUsed } : State) = { U.setFrames U.frames with heap := s₂.heap, slotsUsed := s₂.slotsUsed }
      rw [State.setFrames_self ht]
    subst hg
    refine Or.inl ⟨v, ⟨(({ U with heap := s₂.heap, slotsUsed := s₂.slotsUsed } : State).setVm s₂.vm), Ls ++ L, c0 + mc, s0 + ms⟩,
      ⟨X.admits, X.cas, X.clock, X.frames, X.room, X.hears, X.method, X.code, (X.here.setHeapUsed s₂.heap s₂.slotsUsed).setVm hW'.alike, X.tail, State.WarmedH.trans X.warmed hW', X.limits, X.bytes, X.same.trans (hsame.setVm s.vm)⟩,
      ⟨g, mk, s₂, L, rfl, rfl, hqc, rfl, hL, rfl, rfl⟩, ?_⟩
    show Steps p.tables e below _ ((({ U with heap := s₂.heap, slotsUsed := s₂.slotsUsed } : State).setVm s₂.vm).setTop { g with pc := g.pc + len₂, stack := v.toList ++ g.stack })
    rw [← hs₂]
    exact hsteps
  · obtain ⟨e2, q2, q3, q4, q5, q6⟩ := id hsm
    have e3 : s₂ = ({ (U.calling g mk a).setFrames s₂.frames with heap := s₂.heap, slotsUsed := s₂.slotsUsed } : State).setVm s₂.vm := by
      have : s₂ = ({ s₂ with vm := (U.calling g mk a).vm } : State).setVm s₂.vm := rfl
      rw [e2] at this
      exact this
    have hf₂ : s₂.frames = .throwing q :: .java g :: U.frames.tail := hend
    have hW' : U.WarmedH s₂.vm := hW₂
    have hs₂ : s₂ = ((({ U with heap := s₂.heap, slotsUsed := s₂.slotsUsed } : State).setVm s₂.vm).setTop g).pushFrame (.throwing q) := by
      refine e3.trans ?_
      rw [hf₂, State.calling_eq h.top, State.setFrames_setFrames, State.pushFrame, State.frames_setTop _ hr', State.setTop_of_frames _ hr', State.setFrames_setFrames, hr]
      rfl
    have hsame : U.sameButNew ({ U with heap := s₂.heap, slotsUsed := s₂.slotsUsed } : State) L mc ms := by
      refine ⟨?_, q2, q3, q4, q5, q6⟩
      obtain ⟨t, ht, -⟩ := State.frames_cons hr
      show ({ U with heap := s₂.heap, slotsUsed := s₂.slotsUsed } : State) = { U.setFrames U.frames with heap := s₂.heap, slotsUsed := s₂.slotsUsed }
      rw [State.setFrames_self ht]
    subst hg
    refine Or.inr ⟨q, ⟨(({ U with heap := s₂.heap, slotsUsed := s₂.slotsUsed } : State).setVm s₂.vm), Ls ++ L, c0 + mc, s0 + ms⟩,
      ⟨X.admits, X.cas, X.clock, X.frames, X.room, X.hears, X.method, X.code, (X.here.setHeapUsed s₂.heap s₂.slotsUsed).setVm hW'.alike, X.tail, State.WarmedH.trans X.warmed hW', X.limits, X.bytes, X.same.trans (hsame.setVm s.vm)⟩,
      ⟨g, mk, s₂, L, E, ce, rfl, rfl, hx, hce, hcv, hcl, rfl, hL, rfl, rfl⟩, ?_⟩
    show Steps p.tables e below _ (((({ U with heap := s₂.heap, slotsUsed := s₂.slotsUsed } : State).setVm s₂.vm).setTop g).pushFrame (.throwing q))
    rw [← hs₂]
    exact hsteps
end Payer
section Calls
variable {p : Program} {l : Launch} {e : Env} {R : Room} {s : State} {m : MethodId} {args : Array Value} {below : List Frame} {meth : Method} {c : Code} {T : State} {locs : List Loc} {cells slots : Nat}
theorem vx_callV (X : Stand p l e R s m args below meth c T locs cells slots) (hexec : p.tables.exec = Jvm.exec) {own C : String} {index : Nat} {y : MethodName} {bytes : ByteArray} {maxL : Nat} {ret : Option FieldType}
    (hown : s.vm.findClass own = some m.cls) (hlink : (Cond.methodLink own index y).before args s = true) (hinst : (Cond.instanceMethod y).before args s = true) (hsel : (Cond.selects C y y).before args s = true)
    (hcode : (Cond.code y bytes maxL ret).before args s = true) (hy : y.cls ≠ "java/lang/invoke/MethodHandle" ∧ y.cls ≠ "java/lang/invoke/VarHandle")
    {W9 : Nat} {Pre : Pt → Array Value → Prop} {Post : Pt → Array Value → Option Value → Pt → Prop} {PostX : Pt → Array Value → Addr → Pt → Prop} (hK : vx_Back l R p e below s args y 3 W9 Pre Post PostX)
    {b : Addr} {cellB : Cell} (hcell : T.heap[b]? = some cellB) (hobj : cellB.vm.isStatics = false) (hcls : s.vm.findClass C = some cellB.cls)
    {g : JFrame} (hg : g.method = m) (hsize : g.locals.size = c.maxLocals) {argsL rest : List Value} (hlen : ∀ sig, parseMethodDescriptor y.desc = some sig → argsL.length = sig.parameters.length)
    (hstack : g.stack = argsL.reverse ++ .ref b :: rest) (hW : 2 * g.monitorRoom + (rest.map fun v => v.category).sum ≤ W9) (hdg : decode c.code g.pc = .ok (.invokevirtual index, 3))
    (hpre : ∀ vm₁, s.WarmedH vm₁ → Pre ⟨T.setVm vm₁, locs, cells, slots⟩ (Value.ref b :: argsL).toArray) :
    (∃ (v : Option Value) (vm₁ : Vm) (B : Pt), s.WarmedH vm₁ ∧ Stand p l e R s m args below meth c B.U B.locs B.cells B.slots ∧ Post ⟨T.setVm vm₁, locs, cells, slots⟩ (Value.ref b :: argsL).toArray v B ∧
      ∀ target, Steps p.tables e below (B.U.setTop { g with pc := g.pc + 3, stack := v.toList ++ rest }) target → Steps p.tables e below (T.setTop g) target) ∨
    (∃ (q : Addr) (vm₁ : Vm) (B : Pt), s.WarmedH vm₁ ∧ Stand p l e R s m args below meth c B.U B.locs B.cells B.slots ∧ PostX ⟨T.setVm vm₁, locs, cells, slots⟩ (Value.ref b :: argsL).toArray q B ∧
      Steps p.tables e below (T.setTop g) ((B.U.setTop { g with stack := rest }).pushFrame (.throwing q))) := by
  obtain ⟨mk, methM, hnamed, hmethM, hstM, habM⟩ := Cond.instanceMethod_spec hinst
  obtain ⟨methM', cM, hmethM', -, -, -, -, -, -, hsigM⟩ := Cond.code_spec hnamed hcode
  cases hmethM.symm.trans hmethM'
  obtain ⟨c2, r2, m2, q1, q2, q3, q4, kP, hkP, hkPi⟩ := Cond.selects_spec hsel
  cases hcls.symm.trans q1
  cases (State.methodFound?_of_named hnamed hy).symm.trans q2
  cases hnamed.symm.trans q3
  have hselP : selectMethod e.platform s.vm cellB.cls mk = .method mk := by rw [Launch.admits_selectMethod X.admits]; exact q4
  obtain ⟨vm₁, X₁, hstep₁⟩ := X.invokevirtual hexec hown hlink hnamed hmethM hstM hkP hkPi hy (a := b) (cell := cellB) hcell
    (fun z h => by rw [h] at hobj; cases hobj) hselP hmethM habM hkP hkPi (g := g) hg (argsL := argsL) (rest := rest) (hlen _ hsigM) hstack hdg
  rcases hK m meth c ⟨T.setVm vm₁, locs, cells, slots⟩ { g with stack := rest } (.invokevirtual index) mk (Value.ref b :: argsL).toArray X₁ hg hsize hdg hW (X₁.named hnamed) (hpre vm₁ X₁.warmed) with ⟨v, B, X', hpost, hsteps⟩ | ⟨q, B, X', hpost, hsteps⟩
  · exact Or.inl ⟨v, vm₁, B, X₁.warmed, X', hpost, fun target h => hstep₁ _ fun acts => by rw [doInvoke_state]; exact hsteps.trans h⟩
  · exact Or.inr ⟨q, vm₁, B, X₁.warmed, X', hpost, hstep₁ _ fun acts => by rw [doInvoke_state]; exact hsteps⟩
theorem vx_callS (X : Stand p l e R s m args below meth c T locs cells slots) (hexec : p.tables.exec = Jvm.exec) {own : String} {index : Nat} {y : MethodName} {bytes : ByteArray} {maxL : Nat} {ret : Option FieldType}
    (hown : s.vm.findClass own = some m.cls) (hlink : (Cond.methodLink own index y).before args s = true) (hstat : (Cond.static y).before args s = true) (hinit : (Cond.initialized y.cls).before args s = true)
    (hcode : (Cond.code y bytes maxL ret).before args s = true) (hy : y.cls ≠ "java/lang/invoke/MethodHandle" ∧ y.cls ≠ "java/lang/invoke/VarHandle")
    {W9 : Nat} {Pre : Pt → Array Value → Prop} {Post : Pt → Array Value → Option Value → Pt → Prop} {PostX : Pt → Array Value → Addr → Pt → Prop} (hK : vx_Back l R p e below s args y 3 W9 Pre Post PostX)
    {g : JFrame} (hg : g.method = m) (hsize : g.locals.size = c.maxLocals) {argsL rest : List Value} (hlen : ∀ sig, parseMethodDescriptor y.desc = some sig → argsL.length = sig.parameters.length)
    (hstack : g.stack = argsL.reverse ++ rest) (hW : 2 * g.monitorRoom + (rest.map fun v => v.category).sum ≤ W9) (hdg : decode c.code g.pc = .ok (.invokestatic index, 3))
    (hpre : ∀ vm₁, s.WarmedH vm₁ → Pre ⟨T.setVm vm₁, locs, cells, slots⟩ argsL.toArray) :
    (∃ (v : Option Value) (vm₁ : Vm) (B : Pt), s.WarmedH vm₁ ∧ Stand p l e R s m args below meth c B.U B.locs B.cells B.slots ∧ Post ⟨T.setVm vm₁, locs, cells, slots⟩ argsL.toArray v B ∧
      ∀ target, Steps p.tables e below (B.U.setTop { g with pc := g.pc + 3, stack := v.toList ++ rest }) target → Steps p.tables e below (T.setTop g) target) ∨
    (∃ (q : Addr) (vm₁ : Vm) (B : Pt), s.WarmedH vm₁ ∧ Stand p l e R s m args below meth c B.U B.locs B.cells B.slots ∧ PostX ⟨T.setVm vm₁, locs, cells, slots⟩ argsL.toArray q B ∧
      Steps p.tables e below (T.setTop g) ((B.U.setTop { g with stack := rest }).pushFrame (.throwing q))) := by
  obtain ⟨mk, hnamed⟩ := Cond.code_named hcode
  obtain ⟨methM, cM, hmethM, -, -, -, -, -, -, hsigM⟩ := Cond.code_spec hnamed hcode
  have hstatic : methM.isStatic = true := Cond.static_spec hnamed hmethM hstat
  obtain ⟨kP, hkP, -⟩ := className_of_methodNamed hnamed
  have hinitP : kP.init = .initialized := Cond.initialized_spec (findClass_of_methodNamed hnamed) hkP hinit
  obtain ⟨vm₁, X₁, hstep₁⟩ := X.invokestatic hexec hown hlink hnamed hmethM hstatic hkP hinitP hy (g := g) hg (argsL := argsL) (rest := rest) (hlen _ hsigM) hstack hdg
  rcases hK m meth c ⟨T.setVm vm₁, locs, cells, slots⟩ { g with stack := rest } (.invokestatic index) mk argsL.toArray X₁ hg hsize hdg hW (X₁.named hnamed) (hpre vm₁ X₁.warmed) with ⟨v, B, X', hpost, hsteps⟩ | ⟨q, B, X', hpost, hsteps⟩
  · exact Or.inl ⟨v, vm₁, B, X₁.warmed, X', hpost, fun target h => hstep₁ _ fun acts => by rw [doInvoke_state]; exact hsteps.trans h⟩
  · exact Or.inr ⟨q, vm₁, B, X₁.warmed, X', hpost, hstep₁ _ fun acts => by rw [doInvoke_state]; exact hsteps⟩
end Calls
theorem vx_cls {s : State} {T : State} {vm₁ : Vm} {E : String} {k : ClassId} (hW : s.WarmedH vm₁) (h : (T.setVm vm₁).vm.findClass E = some k) : s.vm.findClass E = some k := by
  have h1 : vm₁.findClass E = some k := h
  rw [hW.alike.findClass] at h1
  exact h1
/-- the method's frame g, with q thrown over it -/
def vx_W (p : Program) (l : Launch) (e : Env) (R : Room) (s : State) (m : MethodId) (args : Array Value) (below : List Frame) (meth : Method) (c : Code) (H : Heap) (locs : List Loc) (cells slots : Nat) (Q : State → Prop) (g : JFrame) (q : Addr) : Prop :=
  ∀ T : State, T.heap = H → Stand p l e R s m args below meth c T locs cells slots → ∃ t, Steps p.tables e below ((T.setTop g).pushFrame (.throwing q)) t ∧ Q t
def vx_Run (p : Program) (l : Launch) (e : Env) (R : Room) (s : State) (m : MethodId) (args : Array Value) (below : List Frame) (meth : Method) (c : Code) (H : Heap) (locs : List Loc) (cells slots mc ms : Nat) (g : JFrame) (rest : List Value) (Qa : State → Outcome → State → Prop) (XC : String → State → State → Prop) (free : Addr → Prop) : Prop :=
  ∀ T : State, T.heap = H → Stand p l e R s m args below meth c T locs cells slots →
    (∃ (v : Option Value) (st₀ t T' : State) (L : List Loc), st₀.heap = H ∧ Stand p l e R s m args below meth c T' (locs ++ L) (cells + mc) (slots + ms) ∧ (∀ q ∈ L, free q.base) ∧ T'.heap = t.heap ∧ T'.vm = t.vm ∧ Qa st₀ (.returned v) t ∧
      Goes p e below T g T' { g with pc := g.pc + 3, stack := v.toList ++ rest }) ∨
    (∃ (q : Addr) (st₀ t T' : State) (L : List Loc) (E : String) (ce : Cell), st₀.heap = H ∧ Stand p l e R s m args below meth c T' (locs ++ L) (cells + mc) (slots + ms) ∧ (∀ z ∈ L, free z.base) ∧ T'.heap = t.heap ∧ T'.vm = t.vm ∧ XC E st₀ t ∧ t.heap[q]? = some ce ∧ ce.vm = .none ∧ s.vm.findClass E = some ce.cls ∧
      Steps p.tables e below (T.setTop g) ((T'.setTop { g with stack := rest }).pushFrame (.throwing q)))
def vx_X {S : Type} (px : S → Prop) (B : String → S → State → Prop) (A : Nat → Prop) : String → State → State → Prop := fun E st t => ∃ u : S, px u ∧ B E u t ∧ va_F A st t
section Runs
variable {p : Program} {l : Launch} {e : Env} {R : Room} {s : State} {m : MethodId} {args : Array Value} {below : List Frame} {meth : Method} {c : Code} {H : Heap} {locs : List Loc} {cells slots : Nat}
variable {y : MethodName} {bytes cc : ByteArray} {maxL nL mc ms n index : Nat} {ret : Option FieldType} {ws : List Cond} {rm : Room} {Pc : Array Value → State → Prop} {Qc : Array Value → State → Outcome → State → Prop} {XC : String → State → State → Prop} {free : Addr → Prop} {Ts : List Cond} {own C : String} {b : Addr} {As rest : List Value} {g : JFrame}
theorem vx_callBack (cb : CallB R s args own index y bytes maxL ret ws rm mc ms n) (hM : vx_Met l y ws rm Pc Qc XC mc ms free) (hbl : FrameBlind Pc) : vx_Back l R p e below s args y 3 8 (PreOf R mc ms Pc) (PostOf Qc mc ms free) (vx_Post XC mc ms free) := by
  obtain ⟨hrc, hrs, hfr, hlo, hws, hcw, -, hini, -⟩ := cb
  exact vx_back (bytes := bytes) (maxL := maxL) (ret := ret) hM hbl hrc hrs hfr hlo hws hcw (fun a' U hW => word_at hW (Or.inl (by first | rfl | simp [Cond.onTables, Cond.keeps, Cond.steady])) hini)
theorem vx_runV (S : CallFix p m c cc nL s args Ts own) (hM : vx_Met l y ws rm Pc Qc XC mc ms free) (cw : CallW R s args own C index y bytes maxL ret ws rm mc ms n) (hp : PreV s H C b Pc As)
    (hg : g.method = m) (hn : As.length = n) (hsize : g.locals.size = nL) (hstack : g.stack = As.reverse ++ .ref b :: rest) (hW : 2 * g.monitorRoom + (rest.map fun v => v.category).sum ≤ 8) (hdg : decode cc g.pc = .ok (.invokevirtual index, 3)) (hf : cells + mc ≤ R.cells ∧ slots + ms ≤ R.slots) :
    vx_Run p l e R s m args below meth c H locs cells slots mc ms g rest (Qc (Value.ref b :: As).toArray) XC free := by
  have hK : vx_Back l R p e below s args y 3 8 (PreOf R mc ms Pc) (PostOf Qc mc ms free) (vx_Post XC mc ms free) := vx_callBack cw.1 hM hp.1
  obtain ⟨⟨-, -, -, -, -, -, hcode, -, hy, hlen, hl⟩, hin, hse⟩ := cw
  obtain ⟨hx, hb, hml, ho, -⟩ := S
  obtain ⟨-, ⟨cellB, hcB, hoB, hclB⟩, hPc⟩ := hp
  intro T hT X
  rcases vx_callV X hx (C := C) (bytes := bytes) (maxL := maxL) (ret := ret) ho hl hin hse hcode hy hK (by rw [hT]; exact hcB) hoB hclB hg (hsize.trans hml.symm) (argsL := As) (rest := rest) (fun sig h => hn.trans (hlen sig h)) hstack hW (by rw [hb]; exact hdg)
    (fun vm₁ hW₁ => ⟨hf.1, hf.2, hPc (T.setVm vm₁) hT hW₁⟩) with ⟨v, vm₁, ⟨U', l2, c2, s2⟩, hW₁, X', ⟨g', mk, t, L, e1, e2, hq, h1, hL, h2, h3⟩, st⟩ | ⟨q, vm₁, ⟨U', l2, c2, s2⟩, hW₁, X', ⟨g', mk, t, L, E, ce, e1, e2, hq, hce, hcv, hcl, h1, hL, h2, h3⟩, st⟩
  · dsimp only [Pt.U, Pt.locs, Pt.cells, Pt.slots] at X' e1 e2 h1 h2 h3 st
    subst h1; subst h2; subst h3
    exact Or.inl ⟨v, (T.setVm vm₁).calling g' mk (Value.ref b :: As).toArray, t, U', L, hT, X', hL, e1, e2, hq, st⟩
  · dsimp only [Pt.U, Pt.locs, Pt.cells, Pt.slots] at X' e1 e2 h1 h2 h3 st hcl
    subst h1; subst h2; subst h3
    exact Or.inr ⟨q, (T.setVm vm₁).calling g' mk (Value.ref b :: As).toArray, t, U', L, E, ce, hT, X', hL, e1, e2, hq, hce, hcv, vx_cls hW₁ hcl, st⟩
theorem vx_runS (S : CallFix p m c cc nL s args Ts own) (hM : vx_Met l y ws rm Pc Qc XC mc ms free) (cw : CallB R s args own index y bytes maxL ret ws rm mc ms n ∧ (Cond.static y).before args s = true) (hp : PreS s H Pc As)
    (hg : g.method = m) (hn : As.length = n) (hsize : g.locals.size = nL) (hstack : g.stack = As.reverse ++ rest) (hW : 2 * g.monitorRoom + (rest.map fun v => v.category).sum ≤ 8) (hdg : decode cc g.pc = .ok (.invokestatic index, 3)) (hf : cells + mc ≤ R.cells ∧ slots + ms ≤ R.slots) :
    vx_Run p l e R s m args below meth c H locs cells slots mc ms g rest (Qc As.toArray) XC free := by
  have hK : vx_Back l R p e below s args y 3 8 (PreOf R mc ms Pc) (PostOf Qc mc ms free) (vx_Post XC mc ms free) := vx_callBack cw.1 hM hp.1
  obtain ⟨⟨-, -, -, -, -, -, hcode, hini, hy, hlen, hl⟩, hstt⟩ := cw
  obtain ⟨hx, hb, hml, ho, -⟩ := S
  intro T hT X
  rcases vx_callS X hx (bytes := bytes) (maxL := maxL) (ret := ret) ho hl hstt hini hcode hy hK hg (hsize.trans hml.symm) (argsL := As) (rest := rest) (fun sig h => hn.trans (hlen sig h)) hstack hW (by rw [hb]; exact hdg)
    (fun vm₁ hW₁ => ⟨hf.1, hf.2, hp.2 (T.setVm vm₁) hT hW₁⟩) with ⟨v, vm₁, ⟨U', l2, c2, s2⟩, hW₁, X', ⟨g', mk, t, L, e1, e2, hq, h1, hL, h2, h3⟩, st⟩ | ⟨q, vm₁, ⟨U', l2, c2, s2⟩, hW₁, X', ⟨g', mk, t, L, E, ce, e1, e2, hq, hce, hcv, hcl, h1, hL, h2, h3⟩, st⟩
  · dsimp only [Pt.U, Pt.locs, Pt.cells, Pt.slots] at X' e1 e2 h1 h2 h3 st
    subst h1; subst h2; subst h3
    exact Or.inl ⟨v, (T.setVm vm₁).calling g' mk As.toArray, t, U', L, hT, X', hL, e1, e2, hq, st⟩
  · dsimp only [Pt.U, Pt.locs, Pt.cells, Pt.slots] at X' e1 e2 h1 h2 h3 st hcl
    subst h1; subst h2; subst h3
    exact Or.inr ⟨q, (T.setVm vm₁).calling g' mk As.toArray, t, U', L, E, ce, hT, X', hL, e1, e2, hq, hce, hcv, vx_cls hW₁ hcl, st⟩
end Runs
section Rows
variable {p : Program} {l : Launch} {e : Env} {R : Room} {s : State} {m : MethodId} {args : Array Value} {below : List Frame} {meth : Method} {c : Code} {H : Heap} {locs : List Loc} {cells slots : Nat} {Q : State → Prop}
variable {mc ms : Nat} {free : Addr → Prop} {A0 A1 : Nat → Prop} {H0 : Heap} {a : Array Value} {pc : Nat} {ls : Array Slot} {st0 rest : List Value}
theorem vx_keep {st₀ t T' : State} {L : List Loc} (h0 : st₀.heap = H) (e1 : T'.heap = t.heap) (hS : va_S A0 H0 H locs) (hA : ∀ q, q < H.size → A1 q → A0 q) (hf : ∀ q, free q → A0 q) (hL : ∀ q ∈ L, free q.base) (hF : va_F A1 st₀ t) :
    H.size ≤ T'.heap.size ∧ (∀ q : Nat, q < H.size → ¬ A1 q → T'.heap[q]? = H[q]?) ∧ va_S A0 H0 T'.heap (locs ++ L) := by
  obtain ⟨hz, hk⟩ := hF
  rw [h0] at hz hk
  exact ⟨by rw [e1]; exact hz, fun q h1 h2 => by rw [e1]; exact hk q h1 h2,
    ⟨Nat.le_trans hS.1 (by rw [e1]; exact hz), fun q h1 h2 => by rw [e1, hk q (Nat.lt_of_lt_of_le h1 hS.1) (fun z => h2 (hA q (Nat.lt_of_lt_of_le h1 hS.1) z))]; exact hS.2.1 q h1 h2, fun q hq => by
      rcases List.mem_append.mp hq with h | h
      · exact hS.2.2 q h
      · exact hf _ (hL q h)⟩⟩
theorem vx_calli {S SX : Type} {post : Int32 → S → Prop} {px : SX → Prop} {B : S → State → Prop} {BX : String → SX → State → Prop} {AX : Nat → Prop} (hr : vx_Run p l e R s m args below meth c H locs cells slots mc ms (F0 m pc ls st0) rest (va_Qi post B A1 a) (vx_X px BX AX) free) (hS : va_S A0 H0 H locs) (hA : ∀ q, q < H.size → A1 q → A0 q) (hf : ∀ q, free q → A0 q) (hAX : ∀ q, q < H.size → AX q → A0 q)
    (kx : ∀ (E : String) (ce : Cell) (q9 : Addr) (u : SX) (t : State) (H1 : Heap) (locs1 : List Loc), t.heap = H1 → s.vm.Alike t.vm → px u → BX E u t → H.size ≤ H1.size → (∀ q : Nat, q < H.size → ¬ AX q → H1[q]? = H[q]?) → va_S A0 H0 H1 locs1 → H1[q9]? = some ce → ce.vm = .none → s.vm.findClass E = some ce.cls → vx_W p l e R s m args below meth c H1 locs1 (cells + mc) (slots + ms) Q (F0 m pc ls rest) q9)
    (kk : ∀ (r : Int32) (u : S) (t : State) (H1 : Heap) (locs1 : List Loc), t.heap = H1 → s.vm.Alike t.vm → post r u → B u t → H.size ≤ H1.size → (∀ q : Nat, q < H.size → ¬ A1 q → H1[q]? = H[q]?) → va_S A0 H0 H1 locs1 → W p l e R s m args below meth c H1 locs1 (cells + mc) (slots + ms) Q (F0 m (pc + 3) ls (.int r :: rest))) : W p l e R s m args below meth c H locs cells slots Q (F0 m pc ls st0) := by
  intro T hT X
  rcases hr T hT X with ⟨v, st₀, t, T', L, h0, X', hL, e1, e2, ⟨⟨r, u, hv, hp, hb⟩, hF⟩, st⟩ | ⟨q, st₀, t, T', L, E, ce, h0, X', hL, e1, e2, ⟨u, hp, hb, hF⟩, hce, hcv, hcl, st⟩
  · cases hv
    obtain ⟨k1, k2, k3⟩ := vx_keep h0 e1 hS hA hf hL hF
    obtain ⟨t2, a1, b1⟩ := kk r u t T'.heap (locs ++ L) e1.symm (by rw [← e2]; exact X'.warmed.alike) hp hb k1 k2 k3 T' rfl X'
    exact ⟨t2, st t2 a1, b1⟩
  · obtain ⟨k1, k2, k3⟩ := vx_keep h0 e1 hS hAX hf hL hF
    obtain ⟨t2, a1, b1⟩ := kx E ce q u t T'.heap (locs ++ L) e1.symm (by rw [← e2]; exact X'.warmed.alike) hp hb k1 k2 k3 (by rw [e1]; exact hce) hcv hcl T' rfl X'
    exact ⟨t2, st.trans a1, b1⟩
theorem vx_calll {S SX : Type} {post : Int64 → S → Prop} {px : SX → Prop} {B : S → State → Prop} {BX : String → SX → State → Prop} {AX : Nat → Prop} (hr : vx_Run p l e R s m args below meth c H locs cells slots mc ms (F0 m pc ls st0) rest (va_Ql post B A1 a) (vx_X px BX AX) free) (hS : va_S A0 H0 H locs) (hA : ∀ q, q < H.size → A1 q → A0 q) (hf : ∀ q, free q → A0 q) (hAX : ∀ q, q < H.size → AX q → A0 q)
    (kx : ∀ (E : String) (ce : Cell) (q9 : Addr) (u : SX) (t : State) (H1 : Heap) (locs1 : List Loc), t.heap = H1 → s.vm.Alike t.vm → px u → BX E u t → H.size ≤ H1.size → (∀ q : Nat, q < H.size → ¬ AX q → H1[q]? = H[q]?) → va_S A0 H0 H1 locs1 → H1[q9]? = some ce → ce.vm = .none → s.vm.findClass E = some ce.cls → vx_W p l e R s m args below meth c H1 locs1 (cells + mc) (slots + ms) Q (F0 m pc ls rest) q9)
    (kk : ∀ (r : Int64) (u : S) (t : State) (H1 : Heap) (locs1 : List Loc), t.heap = H1 → s.vm.Alike t.vm → post r u → B u t → H.size ≤ H1.size → (∀ q : Nat, q < H.size → ¬ A1 q → H1[q]? = H[q]?) → va_S A0 H0 H1 locs1 → W p l e R s m args below meth c H1 locs1 (cells + mc) (slots + ms) Q (F0 m (pc + 3) ls (.long r :: rest))) : W p l e R s m args below meth c H locs cells slots Q (F0 m pc ls st0) := by
  intro T hT X
  rcases hr T hT X with ⟨v, st₀, t, T', L, h0, X', hL, e1, e2, ⟨⟨r, u, hv, hp, hb⟩, hF⟩, st⟩ | ⟨q, st₀, t, T', L, E, ce, h0, X', hL, e1, e2, ⟨u, hp, hb, hF⟩, hce, hcv, hcl, st⟩
  · cases hv
    obtain ⟨k1, k2, k3⟩ := vx_keep h0 e1 hS hA hf hL hF
    obtain ⟨t2, a1, b1⟩ := kk r u t T'.heap (locs ++ L) e1.symm (by rw [← e2]; exact X'.warmed.alike) hp hb k1 k2 k3 T' rfl X'
    exact ⟨t2, st t2 a1, b1⟩
  · obtain ⟨k1, k2, k3⟩ := vx_keep h0 e1 hS hAX hf hL hF
    obtain ⟨t2, a1, b1⟩ := kx E ce q u t T'.heap (locs ++ L) e1.symm (by rw [← e2]; exact X'.warmed.alike) hp hb k1 k2 k3 (by rw [e1]; exact hce) hcv hcl T' rfl X'
    exact ⟨t2, st.trans a1, b1⟩
theorem vx_callf {S SX : Type} {post : UInt32 → S → Prop} {px : SX → Prop} {B : S → State → Prop} {BX : String → SX → State → Prop} {AX : Nat → Prop} (hr : vx_Run p l e R s m args below meth c H locs cells slots mc ms (F0 m pc ls st0) rest (va_Qf post B A1 a) (vx_X px BX AX) free) (hS : va_S A0 H0 H locs) (hA : ∀ q, q < H.size → A1 q → A0 q) (hf : ∀ q, free q → A0 q) (hAX : ∀ q, q < H.size → AX q → A0 q)
    (kx : ∀ (E : String) (ce : Cell) (q9 : Addr) (u : SX) (t : State) (H1 : Heap) (locs1 : List Loc), t.heap = H1 → s.vm.Alike t.vm → px u → BX E u t → H.size ≤ H1.size → (∀ q : Nat, q < H.size → ¬ AX q → H1[q]? = H[q]?) → va_S A0 H0 H1 locs1 → H1[q9]? = some ce → ce.vm = .none → s.vm.findClass E = some ce.cls → vx_W p l e R s m args below meth c H1 locs1 (cells + mc) (slots + ms) Q (F0 m pc ls rest) q9)
    (kk : ∀ (r : UInt32) (u : S) (t : State) (H1 : Heap) (locs1 : List Loc), t.heap = H1 → s.vm.Alike t.vm → post r u → B u t → H.size ≤ H1.size → (∀ q : Nat, q < H.size → ¬ A1 q → H1[q]? = H[q]?) → va_S A0 H0 H1 locs1 → W p l e R s m args below meth c H1 locs1 (cells + mc) (slots + ms) Q (F0 m (pc + 3) ls (.float r :: rest))) : W p l e R s m args below meth c H locs cells slots Q (F0 m pc ls st0) := by
  intro T hT X
  rcases hr T hT X with ⟨v, st₀, t, T', L, h0, X', hL, e1, e2, ⟨⟨r, u, hv, hp, hb⟩, hF⟩, st⟩ | ⟨q, st₀, t, T', L, E, ce, h0, X', hL, e1, e2, ⟨u, hp, hb, hF⟩, hce, hcv, hcl, st⟩
  · cases hv
    obtain ⟨k1, k2, k3⟩ := vx_keep h0 e1 hS hA hf hL hF
    obtain ⟨t2, a1, b1⟩ := kk r u t T'.heap (locs ++ L) e1.symm (by rw [← e2]; exact X'.warmed.alike) hp hb k1 k2 k3 T' rfl X'
    exact ⟨t2, st t2 a1, b1⟩
  · obtain ⟨k1, k2, k3⟩ := vx_keep h0 e1 hS hAX hf hL hF
    obtain ⟨t2, a1, b1⟩ := kx E ce q u t T'.heap (locs ++ L) e1.symm (by rw [← e2]; exact X'.warmed.alike) hp hb k1 k2 k3 (by rw [e1]; exact hce) hcv hcl T' rfl X'
    exact ⟨t2, st.trans a1, b1⟩
theorem vx_calld {S SX : Type} {post : UInt64 → S → Prop} {px : SX → Prop} {B : S → State → Prop} {BX : String → SX → State → Prop} {AX : Nat → Prop} (hr : vx_Run p l e R s m args below meth c H locs cells slots mc ms (F0 m pc ls st0) rest (va_Qd post B A1 a) (vx_X px BX AX) free) (hS : va_S A0 H0 H locs) (hA : ∀ q, q < H.size → A1 q → A0 q) (hf : ∀ q, free q → A0 q) (hAX : ∀ q, q < H.size → AX q → A0 q)
    (kx : ∀ (E : String) (ce : Cell) (q9 : Addr) (u : SX) (t : State) (H1 : Heap) (locs1 : List Loc), t.heap = H1 → s.vm.Alike t.vm → px u → BX E u t → H.size ≤ H1.size → (∀ q : Nat, q < H.size → ¬ AX q → H1[q]? = H[q]?) → va_S A0 H0 H1 locs1 → H1[q9]? = some ce → ce.vm = .none → s.vm.findClass E = some ce.cls → vx_W p l e R s m args below meth c H1 locs1 (cells + mc) (slots + ms) Q (F0 m pc ls rest) q9)
    (kk : ∀ (r : UInt64) (u : S) (t : State) (H1 : Heap) (locs1 : List Loc), t.heap = H1 → s.vm.Alike t.vm → post r u → B u t → H.size ≤ H1.size → (∀ q : Nat, q < H.size → ¬ A1 q → H1[q]? = H[q]?) → va_S A0 H0 H1 locs1 → W p l e R s m args below meth c H1 locs1 (cells + mc) (slots + ms) Q (F0 m (pc + 3) ls (.double r :: rest))) : W p l e R s m args below meth c H locs cells slots Q (F0 m pc ls st0) := by
  intro T hT X
  rcases hr T hT X with ⟨v, st₀, t, T', L, h0, X', hL, e1, e2, ⟨⟨r, u, hv, hp, hb⟩, hF⟩, st⟩ | ⟨q, st₀, t, T', L, E, ce, h0, X', hL, e1, e2, ⟨u, hp, hb, hF⟩, hce, hcv, hcl, st⟩
  · cases hv
    obtain ⟨k1, k2, k3⟩ := vx_keep h0 e1 hS hA hf hL hF
    obtain ⟨t2, a1, b1⟩ := kk r u t T'.heap (locs ++ L) e1.symm (by rw [← e2]; exact X'.warmed.alike) hp hb k1 k2 k3 T' rfl X'
    exact ⟨t2, st t2 a1, b1⟩
  · obtain ⟨k1, k2, k3⟩ := vx_keep h0 e1 hS hAX hf hL hF
    obtain ⟨t2, a1, b1⟩ := kx E ce q u t T'.heap (locs ++ L) e1.symm (by rw [← e2]; exact X'.warmed.alike) hp hb k1 k2 k3 (by rw [e1]; exact hce) hcv hcl T' rfl X'
    exact ⟨t2, st.trans a1, b1⟩
theorem vx_callv {S SX : Type} {post : S → Prop} {px : SX → Prop} {B : S → State → Prop} {BX : String → SX → State → Prop} {AX : Nat → Prop} (hr : vx_Run p l e R s m args below meth c H locs cells slots mc ms (F0 m pc ls st0) rest (va_Qv post B A1 a) (vx_X px BX AX) free) (hS : va_S A0 H0 H locs) (hA : ∀ q, q < H.size → A1 q → A0 q) (hf : ∀ q, free q → A0 q) (hAX : ∀ q, q < H.size → AX q → A0 q)
    (kx : ∀ (E : String) (ce : Cell) (q9 : Addr) (u : SX) (t : State) (H1 : Heap) (locs1 : List Loc), t.heap = H1 → s.vm.Alike t.vm → px u → BX E u t → H.size ≤ H1.size → (∀ q : Nat, q < H.size → ¬ AX q → H1[q]? = H[q]?) → va_S A0 H0 H1 locs1 → H1[q9]? = some ce → ce.vm = .none → s.vm.findClass E = some ce.cls → vx_W p l e R s m args below meth c H1 locs1 (cells + mc) (slots + ms) Q (F0 m pc ls rest) q9)
    (kk : ∀ (u : S) (t : State) (H1 : Heap) (locs1 : List Loc), t.heap = H1 → s.vm.Alike t.vm → post u → B u t → H.size ≤ H1.size → (∀ q : Nat, q < H.size → ¬ A1 q → H1[q]? = H[q]?) → va_S A0 H0 H1 locs1 → W p l e R s m args below meth c H1 locs1 (cells + mc) (slots + ms) Q (F0 m (pc + 3) ls (rest))) : W p l e R s m args below meth c H locs cells slots Q (F0 m pc ls st0) := by
  intro T hT X
  rcases hr T hT X with ⟨v, st₀, t, T', L, h0, X', hL, e1, e2, ⟨⟨u, hv, hp, hb⟩, hF⟩, st⟩ | ⟨q, st₀, t, T', L, E, ce, h0, X', hL, e1, e2, ⟨u, hp, hb, hF⟩, hce, hcv, hcl, st⟩
  · cases hv
    obtain ⟨k1, k2, k3⟩ := vx_keep h0 e1 hS hA hf hL hF
    obtain ⟨t2, a1, b1⟩ := kk u t T'.heap (locs ++ L) e1.symm (by rw [← e2]; exact X'.warmed.alike) hp hb k1 k2 k3 T' rfl X'
    exact ⟨t2, st t2 a1, b1⟩
  · obtain ⟨k1, k2, k3⟩ := vx_keep h0 e1 hS hAX hf hL hF
    obtain ⟨t2, a1, b1⟩ := kx E ce q u t T'.heap (locs ++ L) e1.symm (by rw [← e2]; exact X'.warmed.alike) hp hb k1 k2 k3 (by rw [e1]; exact hce) hcv hcl T' rfl X'
    exact ⟨t2, st.trans a1, b1⟩
/-- caught by the row x of this method's table; the rows ahead don't take it -/
theorem vx_catch {own name : String} {E : String} {ce : Cell} {q : Addr} (hown : s.vm.findClass own = some m.cls) (pre : List ExceptionTableEntry) (x : ExceptionTableEntry) (suf : List ExceptionTableEntry) (hsplit : c.exceptionTable.toList = pre ++ x :: suf)
    (hpass : ∀ z ∈ pre, covers z pc = false ∨ (z.catchType ≠ 0 ∧ ∃ nm : String, (Cond.classLink own z.catchType nm).before args s = true ∧ va_Nc E nm s)) (hx : covers x pc = true) (h0 : x.catchType ≠ 0)
    (hlink : (Cond.classLink own x.catchType name).before args s = true) (hcast : (Cond.castable E name).before args s = true) (hcell : H[q]? = some ce) (hv : ce.vm = .none) (hcl : s.vm.findClass E = some ce.cls)
    (kk : W p l e R s m args below meth c H locs cells slots Q (F0 m x.handlerPc ls [.ref q])) : vx_W p l e R s m args below meth c H locs cells slots Q (F0 m pc ls rest) q := by
  intro T hT X
  have hpl : e.platform.magicAccessors = ({} : Platform).magicAccessors := by rw [X.admits.platform]
  obtain ⟨c3, c4, hc3, hc4, hasg⟩ := Cond.castable_spec hcast
  cases Option.some.inj (hc3.symm.trans hcl)
  obtain ⟨c5, hc5, hcl5⟩ := Cond.classLink_spec hown hlink e.platform hpl
  cases Option.some.inj (hc4.symm.trans hc5)
  obtain ⟨vm', X', st⟩ := X.thenCaughtThrough q (g := F0 m pc ls rest) rfl (Steps.refl _) (by rw [hT]; exact hcell) (by rw [hv]; rfl) (by obtain ⟨k9, h9, -⟩ := Vm.findClass_spec hcl; exact ⟨k9, h9⟩) pre x suf hsplit
    (fun z hz => by
      rcases hpass z hz with h | ⟨hz0, nm, hl1, hn1⟩
      · exact Or.inl h
      · obtain ⟨c6, hc6, hcl6⟩ := Cond.classLink_spec hown hl1 e.platform hpl
        obtain ⟨a8, b8, h1, h2, h3⟩ := hn1
        cases Option.some.inj (h1.symm.trans hcl)
        cases Option.some.inj (h2.symm.trans hc6)
        exact Or.inr ⟨hz0, _, hcl6, h3⟩) hx (Or.inr ⟨h0, c4, hcl5, hasg⟩)
  obtain ⟨t, a1, b1⟩ := kk (T.setVm vm') hT X'
  exact ⟨t, st.trans a1, b1⟩
end Rows
section Ends
variable {p : Program} {l : Launch} {e : Env} {R : Room} {s : State} {m : MethodId} {args : Array Value} {below : List Frame} {meth : Method} {c : Code} {H : Heap} {locs : List Loc} {cells slots : Nat} {Q : State → Prop}
variable {mc ms : Nat} {free : Addr → Prop} {A0 A1 : Nat → Prop} {H0 : Heap} {a : Array Value} {ls : Array Slot} {st0 rest : List Value}
variable {Qc : Array Value → State → Outcome → State → Prop} {XC : String → State → State → Prop}
/-- what a body that may throw owes at its end -/
def vx_MQ (below : List Frame) (Qc : Array Value → State → Outcome → State → Prop) (XC : String → State → State → Prop) (a : Array Value) (s : State) (mc ms : Nat) (free : Addr → Prop) : State → Prop := fun t =>
  ∃ o, t.status = .running ∧ Ended t below o ∧ vx_Q Qc XC mc ms free a s o t
theorem vx_ret {g : JFrame} {mc ms : Nat} (k : W p l e R s m args below meth c H locs cells slots (MQ below Qc args s mc ms free) g) : W p l e R s m args below meth c H locs cells slots (vx_MQ below Qc XC args s mc ms free) g := by
  intro T hT X
  obtain ⟨t, a1, o, b1, b2, b3, b4⟩ := k T hT X
  exact ⟨t, a1, o, b1, b2, Or.inl ⟨b3, b4⟩⟩
/-- not caught here: it goes on to the caller -/
theorem vx_widen {g : JFrame} {q : Addr} {k n : Nat} (h1 : cells ≤ k) (h2 : slots ≤ n) (kk : vx_W p l e R s m args below meth c H locs k n Q g q) : vx_W p l e R s m args below meth c H locs cells slots Q g q := fun T hT X => kk T hT (stand_widen X h1 h2)
theorem vx_out {pc : Nat} {E : String} {ce : Cell} {q : Addr} {mc ms : Nat} (hout : ∀ x ∈ c.exceptionTable.toList, covers x pc = false) (hlocks : meth.locks = false) (hcell : H[q]? = some ce) (hv : ce.vm = .none) (hcl : s.vm.findClass E = some ce.cls)
    (hx : ∀ t : State, t.heap = H → s.vm.Alike t.vm → XC E s t) (hf : ∀ z ∈ locs, free z.base) (hc : cells ≤ mc) (hs : slots ≤ ms) :
    vx_W p l e R s m args below meth c H locs cells slots (vx_MQ below Qc XC args s mc ms free) (F0 m pc ls rest) q := by
  intro T hT X
  obtain ⟨st1, hrun, hend, hW, hsm⟩ := X.leaveThrown q (g := F0 m pc ls rest) rfl rfl rfl hout hlocks
  have hcell9 : (T.setFrames (.throwing q :: below)).heap[q]? = some ce := by
    show T.heap[q]? = some ce
    rw [hT]; exact hcell
  exact ⟨_, st1, .threw q, hrun, hend, Or.inr ⟨q, rfl, E, ce, locs, hx _ hT hW.alike, hcell9, hv, hcl, hW, hsm.mono hc hs, hf⟩⟩
theorem vx_frame {U : State} {k n : Nat} (h : s.sameButNew ({ U with vm := s.vm } : State) locs k n) : s.heap.size ≤ U.heap.size ∧ ∀ q : Nat, q < s.heap.size → (∀ z ∈ locs, z.base ≠ q) → U.heap[q]? = s.heap[q]? := by
  obtain ⟨-, h2, -, -, -, h6⟩ := h
  refine ⟨h2, fun q hq hz => ?_⟩
  obtain ⟨c9, e1, e2, e3, e4⟩ := h6 q _ (Array.getElem?_eq_getElem hq)
  have hs : c9.slots = (s.heap[q]).slots := Array.ext_getElem? fun i => e4 i fun hm => hz _ hm rfl
  have h9 : c9 = s.heap[q] := by
    rw [hs] at e2
    exact e2
  have e5 : U.heap[q]? = some c9 := e1
  rw [e5, h9, Array.getElem?_eq_getElem hq]
/-- the words of a throw but the four that speak of the heap -/
def vx_no (w : Cond) : Bool := decide (w ≠ .isRef (.static Bundle.tN "UNASSIGNED_STACK" Bundle.steD)) && decide (w ≠ .isRef (.static Bundle.tN "SUPPRESSED_SENTINEL" Bundle.listD)) && decide (w ≠ .laysStatic Bundle.tN "UNASSIGNED_STACK" Bundle.steD) && decide (w ≠ .laysStatic Bundle.tN "SUPPRESSED_SENTINEL" Bundle.listD)
def vx_at0 (own : String) (ic : Nat) (X : String) (names : List String) : List Cond := (Bundle.ownAtoms0 own ic X names).filter vx_no
def vx_atS (own : String) (ic : Nat) (X : String) (names : List String) : List Cond := (Bundle.ownAtoms own ic X names).filter vx_no
/-- a word that the tables alone decide, or a good one -/
def vx_ot (w : Cond) : Bool := w.onTables || goodWord w
theorem vx_ot_at {args a' : Array Value} {s U : State} {w : Cond} (hW : s.WarmedH U.vm) (hvm : s.vm = U.vm) (hg : vx_ot w = true) (h : w.before args s = true) : w.before a' U = true := by
  simp only [vx_ot, Bool.or_eq_true] at hg
  rcases hg with hg | hg
  · exact va_tabs hg hvm h
  · exact word_at hW (good_of_word hg) h
/-- a list's words: the good ones out of the method's own list, the others by premises of their own -/
theorem vx_hat {args : Array Value} {s : State} {L B : List Cond} (h1 : ∀ w ∈ L.filter goodWord, w.before args s = true) (h2 : ∀ w ∈ L.filter (fun w => !goodWord w), w ∈ B) (h3 : ∀ w ∈ B, w.before args s = true) : ∀ w ∈ L, w.before args s = true := by
  intro w hw
  by_cases g : goodWord w = true
  · exact h1 w (List.mem_filter.mpr ⟨hw, g⟩)
  · refine h3 w (h2 w (List.mem_filter.mpr ⟨hw, ?_⟩))
    show (!goodWord w) = true
    cases hgw : goodWord w
    · rfl
    · exact absurd hgw g
theorem vx_c {args : Array Value} {s : State} {w : Cond} {B : List Cond} (h : w.before args s = true) (t : ∀ w ∈ B, w.before args s = true) : ∀ w' ∈ w :: B, w'.before args s = true := fun w' h' => (List.mem_cons.mp h').elim (fun e => by rw [e]; exact h) (t w')
theorem vx_n {args : Array Value} {s : State} : ∀ w ∈ ([] : List Cond), w.before args s = true := fun _ h => nomatch h
theorem vx_own {args : Array Value} {s : State} {L : List Cond} (h1 : ∀ w ∈ L.filter vx_no, w.before args s = true)
    (hU : (Cond.isRef (.static Bundle.tN "UNASSIGNED_STACK" Bundle.steD)).before args s = true) (hN : (Cond.isRef (.static Bundle.tN "SUPPRESSED_SENTINEL" Bundle.listD)).before args s = true)
    (lU : (Cond.laysStatic Bundle.tN "UNASSIGNED_STACK" Bundle.steD).before args s = true) (lN : (Cond.laysStatic Bundle.tN "SUPPRESSED_SENTINEL" Bundle.listD).before args s = true) : ∀ w ∈ L, w.before args s = true := by
  intro w hw
  by_cases e1 : w = .isRef (.static Bundle.tN "UNASSIGNED_STACK" Bundle.steD)
  · rw [e1]; exact hU
  · by_cases e2 : w = .isRef (.static Bundle.tN "SUPPRESSED_SENTINEL" Bundle.listD)
    · rw [e2]; exact hN
    · by_cases e3 : w = .laysStatic Bundle.tN "UNASSIGNED_STACK" Bundle.steD
      · rw [e3]; exact lU
      · by_cases e4 : w = .laysStatic Bundle.tN "SUPPRESSED_SENTINEL" Bundle.listD
        · rw [e4]; exact lN
        · exact h1 w (List.mem_filter.mpr ⟨hw, by unfold vx_no; rw [decide_eq_true e1, decide_eq_true e2, decide_eq_true e3, decide_eq_true e4]; rfl⟩)
/-- where a static field lies, its class's statics cell in H -/
def vx_L (C n d : String) (A : Nat → Prop) (U : State) (H : Heap) : Prop := ∃ (c : ClassId) (k : Class) (i : Nat) (f : Field) (a : Nat) (cell : Cell), U.vm.findClass C = some c ∧ U.fieldFound? C n d = some (c, k, i, f) ∧ f.isStatic = true ∧ k.statics = some a ∧ H[a]? = some cell ∧ cell.vm.isStatics = true ∧ cell.cls = c ∧ f.slot < cell.slots.size ∧ k.staticTypes[f.slot]? = some f.type ∧ ¬ A a
theorem vx_L.moved {C n d : String} {A : Nat → Prop} {u U : State} {H : Heap} (hvm : u.vm.Alike U.vm) (h : vx_L C n d A u H) : vx_L C n d A U H := by
  obtain ⟨c, k, i, f, a, cell, h1, h2, h3, h4, h5, h6, h7, h8, h9, h10⟩ := h
  obtain ⟨k', hi', he⟩ := State.fieldFound?_setVm hvm h2
  exact ⟨c, k', i, f, a, cell, by rw [hvm.findClass]; exact h1, hi', h3, by rw [he]; exact h4, h5, h6, h7, h8, by rw [he]; exact h9, h10⟩
theorem vx_L.kept {C n d : String} {A : Nat → Prop} {U : State} {H H1 : Heap} (h : vx_L C n d A U H) (hq : ∀ a : Nat, a < H.size → ¬ A a → H1[a]? = H[a]?) : vx_L C n d A U H1 := by
  obtain ⟨c, k, i, f, a, cell, h1, h2, h3, h4, h5, h6, h7, h8, h9, h10⟩ := h
  exact ⟨c, k, i, f, a, cell, h1, h2, h3, h4, by rw [hq a (Array.getElem?_eq_some_iff.mp h5).1 h10]; exact h5, h6, h7, h8, h9, h10⟩
theorem vx_L.narrow {C n d : String} {A B : Nat → Prop} {U : State} {H : Heap} (h : vx_L C n d A U H) (hAB : ∀ q, B q → A q) : vx_L C n d B U H := by
  obtain ⟨c, k, i, f, a, cell, h1, h2, h3, h4, h5, h6, h7, h8, h9, h10⟩ := h
  exact ⟨c, k, i, f, a, cell, h1, h2, h3, h4, h5, h6, h7, h8, h9, fun z => h10 (hAB _ z)⟩
theorem vx_L.word {C n d : String} {A : Nat → Prop} {s : State} {args : Array Value} (h : vx_L C n d A s s.heap) : (Cond.laysStatic C n d).before args s = true := by
  obtain ⟨c, k, i, f, a, cell, h1, h2, h3, h4, h5, h6, h7, h8, h9, -⟩ := h
  show (Cond.laysStatic C n d).holds args s none s [] = true
  exact Cond.laysStatic_of h1 h2 h3 h4 h5 h6 h7 h8 h9
/-- .. and what it holds: null or some reference -/
def vx_Zq (C n d : String) (A : Nat → Prop) (U : State) (H : Heap) : Prop := va_Zq C n d A U H ∧ vx_L C n d A U H
theorem vx_Zq.moved {C n d : String} {A : Nat → Prop} {u U : State} {H : Heap} (hvm : u.vm.Alike U.vm) (h : vx_Zq C n d A u H) : vx_Zq C n d A U H := ⟨va_Zq.moved hvm h.1, vx_L.moved hvm h.2⟩
theorem vx_Zq.kept {C n d : String} {A : Nat → Prop} {U : State} {H H1 : Heap} (h : vx_Zq C n d A U H) (hq : ∀ a : Nat, a < H.size → ¬ A a → H1[a]? = H[a]?) : vx_Zq C n d A U H1 := ⟨va_Zq.kept h.1 hq, vx_L.kept h.2 hq⟩
theorem vx_Zq.narrow {C n d : String} {A B : Nat → Prop} {U : State} {H : Heap} (h : vx_Zq C n d A U H) (hAB : ∀ q, B q → A q) : vx_Zq C n d B U H := ⟨va_Zq.narrow h.1 hAB, vx_L.narrow h.2 hAB⟩
theorem vx_Zqof {args : Array Value} {s : State} {C n d : String} {A : Nat → Prop} (hl : (Cond.laysStatic C n d).before args s = true) (hini : (Cond.initialized C).before args s = true) (h : (Cond.isRef (.static C n d)).before args s = true) (hA : ∀ a : Nat, a < s.heap.size → ¬ A a) : vx_Zq C n d A s s.heap := by
  refine ⟨va_Zqof hl hini h hA, ?_⟩
  obtain ⟨c, k, i, f, a, cell, h1, h2, h3, h4, h5, h6, h7, h8, h9⟩ := Cond.laysStatic_spec hl
  exact ⟨c, k, i, f, a, cell, h1, h2, h3, h4, h5, h6, h7, h8, h9, hA a (Array.getElem?_eq_some_iff.mp h5).1⟩
theorem vx_isRef {C n d : String} {v : Value} {A : Nat → Prop} {s : State} {args : Array Value} (h : va_Z C n d v A s s.heap) (hv : v.isRef = true) : (Cond.isRef (.static C n d)).before args s = true := by
  obtain ⟨cf, kf, fi, f, a, cell, h1, h2, h3, h4, h5, h6, h7, -⟩ := h
  have he : (Term.static C n d).eval args s none [] s = some v := by
    simp [Term.eval, State.fieldNamed?, h1, h2, h4, h5, h6, h7]
  simp only [Cond.before, Cond.holds, Cond.value, he]
  cases v <;> simp_all [Value.isRef]
theorem vx_isRefq {C n d : String} {A : Nat → Prop} {s : State} {args : Array Value} (h : va_Zq C n d A s s.heap) : (Cond.isRef (.static C n d)).before args s = true := by
  rcases h with h | ⟨t, h⟩
  · exact vx_isRef h rfl
  · exact vx_isRef h rfl
/-- the same frame, seen from here: as if the method were called anew in this heap -/
theorem vx_rebase {T : State} (X : Stand p l e R s m args below meth c T locs cells slots) {R' : Room} (hf : R'.frames ≤ R.frames) (hl : R'.locals ≤ R.locals) (hc : cells + R'.cells ≤ R.cells) (hs : slots + R'.slots ≤ R.slots) :
    Stand p l e R' ((T.setVm s.vm).setFrames (.invoking m args :: below)) m args below meth c T [] 0 0 := by
  have htop : (T.setVm s.vm).topJava?.isSome := X.here.top
  have hF : ((T.setVm s.vm).setFrames (.invoking m args :: below)).frames = .invoking m args :: below := State.frames_setFrames _ (State.cur_lt_of_top htop)
  obtain ⟨g₀, hg0⟩ := Option.isSome_iff_exists.mp htop
  obtain ⟨r, hr⟩ := State.topJava?_eq_some.mp hg0
  have hl9 : e.platform.stackLimits (T.setVm s.vm).me = e.platform.stackLimits s.me := X.limits
  have hb9 : (T.setVm s.vm).me.stackBytes = s.me.stackBytes := X.bytes
  refine ⟨X.admits, X.cas, X.clock, hF, ?_, X.hears, X.method, X.code, X.here, X.tail, X.warmed, ?_, ?_, ?_⟩
  · have h := X.room
    have hU : ((T.setVm s.vm).setFrames (.invoking m args :: below)).localsInUse = s.localsInUse := by
      rw [State.localsInUse_invoking hF (meth := meth) (c := c) X.method X.code, State.localsInUse_invoking X.frames X.method X.code]
    simp only [State.hasRoom, Bool.and_eq_true, decide_eq_true_eq] at h ⊢
    obtain ⟨⟨⟨⟨h1, h2, h3, h4, h5, h6⟩, h7⟩, h8⟩, h9⟩ := h
    rw [X.frames, List.length_cons] at h2 h3
    have q1 := X.heapSize
    have q2 := X.used
    simp only [hF, hU, List.length_cons, State.stackLimits_setFrames, State.stackBytes_setFrames, hl9, hb9]
    refine ⟨⟨⟨⟨by omega, by omega, by omega, by omega, by omega, h6⟩, ?_⟩, ?_⟩, X.book⟩
    · show T.heap.size + R'.cells ≤ e.platform.maxCells
      omega
    · show T.slotsUsed + R'.slots ≤ e.platform.maxSlots
      omega
  · rw [State.stackLimits_setFrames]; rfl
  · rw [State.stackBytes_setFrames]; rfl
  · refine ⟨?_, Nat.le_refl _, Nat.le_refl _, ?_, ?_, fun a c9 h9 => ⟨c9, h9, rfl, rfl, fun _ _ => rfl⟩⟩
    · obtain ⟨t, ht, -⟩ := State.frames_cons hr
      show T.setVm s.vm = { ((T.setVm s.vm).setFrames (.invoking m args :: below)).setFrames (T.setVm s.vm).frames with heap := T.heap, slotsUsed := T.slotsUsed }
      rw [State.setFrames_setFrames, State.setFrames_self ht]
      rfl
    · show T.slotsUsed = T.slotsUsed + ((T.heap.toList.drop T.heap.size).map (·.slots.size)).sum
      rw [List.drop_eq_nil_of_le (Nat.le_of_eq Array.length_toList)]
      rfl
    · show ((T.heap.toList.drop T.heap.size).map (·.slots.size)).sum ≤ 0
      rw [List.drop_eq_nil_of_le (Nat.le_of_eq Array.length_toList)]
      exact Nat.le_refl _
/-- 'throw new E()': new; dup; invokespecial; athrow -/
theorem vx_throw0 {cc : ByteArray} {pc : Nat} (hexec : p.tables.exec = Jvm.exec) (hb : c.code = cc) (hl : l.stackTraces = false) {own cls : String} {names : List String} {ik ic mc ms : Nat} {A : Nat → Prop}
    (hown : s.vm.findClass own = some m.cls) (hcls : Bundle.fit cls = true) (hnames : ∀ n ∈ names, Bundle.fit n = true)
    (hk : (Cond.classLink own ik cls).before args s = true) (hini : (Cond.initialized cls).before args s = true) (hat : ∀ w ∈ vx_at0 own ic cls names, w.before args s = true)
    (hgood : ∀ w ∈ Cond.classLink own ik cls :: Cond.initialized cls :: vx_at0 own ic cls names, vx_ot w = true)
    (hU : vx_Zq Bundle.tN "UNASSIGNED_STACK" Bundle.steD A s s.heap) (hN : vx_Zq Bundle.tN "SUPPRESSED_SENTINEL" Bundle.listD A s s.heap) (hS : va_S A s.heap H locs) (hsize : ls.size = c.maxLocals)
    (d0 : decode cc pc = .ok (.new ik, 3)) (d3 : decode cc (pc + 3) = .ok (.dup, 1)) (d4 : decode cc (pc + 4) = .ok (.invokespecial ic, 3)) (d7 : decode cc (pc + 7) = .ok (.athrow, 1))
    (hout : ∀ x ∈ c.exceptionTable.toList, covers x (pc + 7) = false)
    (hRframes : names.length + 3 < R.frames) (hRlocals : (rest.map fun v => v.category).sum + (13 * (names.length + 1) + 42) ≤ R.locals) (hRcells : cells + 1 ≤ R.cells) (hRslots : slots + 6 ≤ R.slots) (hlocks : meth.locks = false)
    (hx : ∀ t : State, s.vm.Alike t.vm → H.size ≤ t.heap.size → (∀ q : Nat, q < H.size → t.heap[q]? = H[q]?) → XC cls s t)
    (hf : ∀ z ∈ locs, free z.base) (hc : cells + 1 ≤ mc) (hs : slots + 6 ≤ ms) :
    W p l e R s m args below meth c H locs cells slots (vx_MQ below Qc XC args s mc ms free) (F0 m pc ls rest) := by
  intro T hT X
  have htr : e.platform.stackTraces = false := (show e.platform.stackTraces = l.stackTraces by rw [X.admits.platform]).trans hl
  have Y := vx_rebase X (R' := { frames := R.frames, locals := R.locals, cells := 1, slots := 6 }) (Nat.le_refl _) (Nat.le_refl _) hRcells hRslots
  obtain ⟨s', hA⟩ : ∃ z, z = (T.setVm s.vm).setFrames (.invoking m args :: below) := ⟨_, rfl⟩
  rw [← hA] at Y
  have hvm : s'.vm = s.vm := by rw [hA]; rfl
  have hhp : s'.heap = H := by rw [hA]; exact hT
  have hW0 : s.WarmedH s'.vm := by rw [hvm]; exact State.WarmedH.refl s
  have hat' : ∀ w ∈ vx_at0 own ic cls names, w.before args s' = true := fun w hw => vx_ot_at hW0 hvm.symm (hgood w (List.mem_cons_of_mem _ (List.mem_cons_of_mem _ hw))) (hat w hw)
  have hk' : (Cond.classLink own ik cls).before args s' = true := vx_ot_at hW0 hvm.symm (hgood _ List.mem_cons_self) hk
  have hini' : (Cond.initialized cls).before args s' = true := vx_ot_at hW0 hvm.symm (hgood _ (List.mem_cons_of_mem _ List.mem_cons_self)) hini
  have hU' : vx_Zq Bundle.tN "UNASSIGNED_STACK" Bundle.steD A s' s'.heap := by rw [hhp]; exact vx_Zq.moved hW0.alike (hU.kept hS.2.1)
  have hN' : vx_Zq Bundle.tN "SUPPRESSED_SENTINEL" Bundle.listD A s' s'.heap := by rw [hhp]; exact vx_Zq.moved hW0.alike (hN.kept hS.2.1)
  have h : ∀ w ∈ Bundle.ownAtoms0 own ic cls names, w.before args s' = true := vx_own hat' (vx_isRefq hU'.1) (vx_isRefq hN'.1) hU'.2.word hN'.2.word
  have hown' : s'.vm.findClass own = some m.cls := by rw [hvm]; exact hown
  have hins : (Cond.instantiable cls 6).before args s' = true := h _ (by simp [Bundle.ownAtoms0])
  obtain ⟨vm₁, cX, kX, hfX, hkX, -, -, X₁, st1⟩ := Y.newCold hexec (own := own) (C := cls) (index := ik) (n := 6) hown' hk' hins hini'
    (g := F0 m pc ls rest) rfl (by rw [hb]; exact d0) (Nat.le_refl _) (Nat.le_refl _)
  generalize hT1 : (T.setVm vm₁).pushCell { cls := cX, slots := kX.instanceTypes.map defaultValue, vm := .none } = T1 at X₁ st1
  have hcat : (Value.ref T.heap.size).category = 1 := rfl
  have hcellA : T1.heap[T.heap.size]? = some (freshCell cX kX) := by rw [← hT1]; exact State.heap_pushCell_size _ _
  have d3' : decode c.code (pc + 3) = .ok (.dup, 1) := by rw [hb]; exact d3
  obtain ⟨U, hsteps, hrun, hend, hW, hsame, ce, hce, hO⟩ := X₁.ctorThrow0 hexec htr (own := own) (cls := cls) (names := names) (ic := ic) hown' hcls hnames h (fun x hx => nomatch hx) hfX hkX hcellA (by rw [hhp, hT]; exact Nat.le_refl _)
    (g := { method := m, pc := pc + 4, locals := ls, stack := .ref T.heap.size :: .ref T.heap.size :: rest, locked := none }) rfl hsize rfl rfl (rest := rest) rfl
    (by rw [hb]; exact d4) (by rw [hb]; exact d7) hout hRframes (by simp only [List.map_cons, List.sum_cons, hcat]; omega) hlocks
  obtain ⟨f1, f2⟩ := vx_frame hsame
  rw [hhp] at f1 f2
  have hWs : s.WarmedH U.vm := State.WarmedH.trans hW0 hW
  have hcl : s.vm.findClass cls = some ce.cls := by
    have h9 := hO.cls
    rw [hvm] at h9
    exact h9
  have hall : s.sameButNew ({ U with vm := s.vm } : State) locs mc ms := by
    subst hA
    obtain ⟨e1, e2⟩ := hsame
    rw [State.setFrames_setFrames] at e1
    have h2 : (T.setVm s.vm).sameButNew ({ U with vm := s.vm } : State) [] (0 + 1) (0 + 6) := ⟨e1, e2⟩
    have h3 := X.same.trans h2
    rw [List.append_nil] at h3
    exact h3.mono hc hs
  refine ⟨U, ?_, .threw T.heap.size, hrun, hend, Or.inr ⟨T.heap.size, rfl, cls, ce, locs, hx U hWs.alike f1 (fun q hq => f2 q hq (fun z hz => nomatch hz)), hce, hO.vm, hcl, hWs, hall, hf⟩⟩
  refine st1 _ ?_
  show Steps p.tables e below (T1.setTop { method := m, pc := pc + 3, locals := ls, stack := .ref T.heap.size :: rest, locked := none }) _
  jvm_step X₁.here [X₁.here.top, hexec, d3', Value.category]
  exact hsteps
/-- 'throw new E("text")': new; dup; ldc; invokespecial; athrow -/
theorem vx_throwS {cc : ByteArray} {pc : Nat} (hexec : p.tables.exec = Jvm.exec) (hb : c.code = cc) (hl : l.stackTraces = false) {own cls text : String} {names : List String} {ik is ic mc ms sa : Nat} {A : Nat → Prop}
    (hown : s.vm.findClass own = some m.cls) (hcls : Bundle.fit cls = true) (hnames : ∀ n ∈ names, Bundle.fit n = true)
    (hk : (Cond.classLink own ik cls).before args s = true) (hini : (Cond.initialized cls).before args s = true) (hstr : vk_R own is text sa s) (hat : ∀ w ∈ vx_atS own ic cls names, w.before args s = true)
    (hgood : ∀ w ∈ Cond.classLink own ik cls :: Cond.initialized cls :: vx_atS own ic cls names, vx_ot w = true)
    (hU : vx_Zq Bundle.tN "UNASSIGNED_STACK" Bundle.steD A s s.heap) (hN : vx_Zq Bundle.tN "SUPPRESSED_SENTINEL" Bundle.listD A s s.heap) (hS : va_S A s.heap H locs) (hsize : ls.size = c.maxLocals)
    (d0 : decode cc pc = .ok (.new ik, 3)) (d3 : decode cc (pc + 3) = .ok (.dup, 1)) (d4 : decode cc (pc + 4) = .ok (.ldc is, 2)) (d6 : decode cc (pc + 6) = .ok (.invokespecial ic, 3)) (d9 : decode cc (pc + 9) = .ok (.athrow, 1))
    (hout : ∀ x ∈ c.exceptionTable.toList, covers x (pc + 9) = false)
    (hRframes : names.length + 3 < R.frames) (hRlocals : (rest.map fun v => v.category).sum + (13 * (names.length + 1) + 43) ≤ R.locals) (hRcells : cells + 1 ≤ R.cells) (hRslots : slots + 6 ≤ R.slots) (hlocks : meth.locks = false)
    (hx : ∀ t : State, s.vm.Alike t.vm → H.size ≤ t.heap.size → (∀ q : Nat, q < H.size → t.heap[q]? = H[q]?) → XC cls s t)
    (hf : ∀ z ∈ locs, free z.base) (hc : cells + 1 ≤ mc) (hs : slots + 6 ≤ ms) :
    W p l e R s m args below meth c H locs cells slots (vx_MQ below Qc XC args s mc ms free) (F0 m pc ls rest) := by
  intro T hT X
  have htr : e.platform.stackTraces = false := (show e.platform.stackTraces = l.stackTraces by rw [X.admits.platform]).trans hl
  have Y := vx_rebase X (R' := { frames := R.frames, locals := R.locals, cells := 1, slots := 6 }) (Nat.le_refl _) (Nat.le_refl _) hRcells hRslots
  obtain ⟨s', hA⟩ : ∃ z, z = (T.setVm s.vm).setFrames (.invoking m args :: below) := ⟨_, rfl⟩
  rw [← hA] at Y
  have hvm : s'.vm = s.vm := by rw [hA]; rfl
  have hhp : s'.heap = H := by rw [hA]; exact hT
  have hW0 : s.WarmedH s'.vm := by rw [hvm]; exact State.WarmedH.refl s
  have hat' : ∀ w ∈ vx_atS own ic cls names, w.before args s' = true := fun w hw => vx_ot_at hW0 hvm.symm (hgood w (List.mem_cons_of_mem _ (List.mem_cons_of_mem _ hw))) (hat w hw)
  have hk' : (Cond.classLink own ik cls).before args s' = true := vx_ot_at hW0 hvm.symm (hgood _ List.mem_cons_self) hk
  have hini' : (Cond.initialized cls).before args s' = true := vx_ot_at hW0 hvm.symm (hgood _ (List.mem_cons_of_mem _ List.mem_cons_self)) hini
  have hU' : vx_Zq Bundle.tN "UNASSIGNED_STACK" Bundle.steD A s' s'.heap := by rw [hhp]; exact vx_Zq.moved hW0.alike (hU.kept hS.2.1)
  have hN' : vx_Zq Bundle.tN "SUPPRESSED_SENTINEL" Bundle.listD A s' s'.heap := by rw [hhp]; exact vx_Zq.moved hW0.alike (hN.kept hS.2.1)
  have h : ∀ w ∈ Bundle.ownAtoms own ic cls names, w.before args s' = true := vx_own hat' (vx_isRefq hU'.1) (vx_isRefq hN'.1) hU'.2.word hN'.2.word
  have hown' : s'.vm.findClass own = some m.cls := by rw [hvm]; exact hown
  have hins : (Cond.instantiable cls 6).before args s' = true := h _ (by simp [Bundle.ownAtoms])
  obtain ⟨vm₁, cX, kX, hfX, hkX, -, -, X₁, st1⟩ := Y.newCold hexec (own := own) (C := cls) (index := ik) (n := 6) hown' hk' hins hini'
    (g := F0 m pc ls rest) rfl (by rw [hb]; exact d0) (Nat.le_refl _) (Nat.le_refl _)
  generalize hT1 : (T.setVm vm₁).pushCell { cls := cX, slots := kX.instanceTypes.map defaultValue, vm := .none } = T1 at X₁ st1
  have hcat : (Value.ref T.heap.size).category = 1 := rfl
  have hcellA : T1.heap[T.heap.size]? = some (freshCell cX kX) := by rw [← hT1]; exact State.heap_pushCell_size _ _
  have d3' : decode c.code (pc + 3) = .ok (.dup, 1) := by rw [hb]; exact d3
  have d4' : decode c.code (pc + 4) = .ok (.ldc is, 2) := by rw [hb]; exact d4
  have hstr' : vk_R own is text sa s' := vk_R.warm hW0 hstr
  obtain ⟨U, hsteps, hrun, hend, hW, hsame, ce, hce, hO⟩ := X₁.ctorThrowS hexec htr (own := own) (cls := cls) (names := names) (ic := ic) hown' hcls hnames h (fun x hx => nomatch hx) hfX hkX hcellA (by rw [hhp, hT]; exact Nat.le_refl _) (msg := .ref sa) rfl
    (g := { method := m, pc := pc + 6, locals := ls, stack := .ref sa :: .ref T.heap.size :: .ref T.heap.size :: rest, locked := none }) rfl hsize rfl rfl (rest := rest) rfl
    (by rw [hb]; exact d6) (by rw [hb]; exact d9) hout hRframes (by simp only [List.map_cons, List.sum_cons, hcat]; omega) hlocks
  obtain ⟨f1, f2⟩ := vx_frame hsame
  rw [hhp] at f1 f2
  have hWs : s.WarmedH U.vm := State.WarmedH.trans hW0 hW
  have hcl : s.vm.findClass cls = some ce.cls := by
    have h9 := hO.cls
    rw [hvm] at h9
    exact h9
  have hall : s.sameButNew ({ U with vm := s.vm } : State) locs mc ms := by
    subst hA
    obtain ⟨e1, e2⟩ := hsame
    rw [State.setFrames_setFrames] at e1
    have h2 : (T.setVm s.vm).sameButNew ({ U with vm := s.vm } : State) [] (0 + 1) (0 + 6) := ⟨e1, e2⟩
    have h3 := X.same.trans h2
    rw [List.append_nil] at h3
    exact h3.mono hc hs
  refine ⟨U, ?_, .threw T.heap.size, hrun, hend, Or.inr ⟨T.heap.size, rfl, cls, ce, locs, hx U hWs.alike f1 (fun q hq => f2 q hq (fun z hz => nomatch hz)), hce, hO.vm, hcl, hWs, hall, hf⟩⟩
  refine st1 _ ?_
  show Steps p.tables e below (T1.setTop { method := m, pc := pc + 3, locals := ls, stack := .ref T.heap.size :: rest, locked := none }) _
  jvm_step X₁.here [X₁.here.top, hexec, d3', Value.category]
  exact X₁.ldcString hexec (own := own) (text := text) (index := is) (a := sa) hown' hstr'.1 hstr'.2
    (g := { method := m, pc := pc + 4, locals := ls, stack := .ref T.heap.size :: .ref T.heap.size :: rest, locked := none }) rfl d4' _ hsteps
/-- 'throw new E("text")', the text by a wide index -/
theorem vx_throwSW {cc : ByteArray} {pc : Nat} (hexec : p.tables.exec = Jvm.exec) (hb : c.code = cc) (hl : l.stackTraces = false) {own cls text : String} {names : List String} {ik is ic mc ms sa : Nat} {A : Nat → Prop}
    (hown : s.vm.findClass own = some m.cls) (hcls : Bundle.fit cls = true) (hnames : ∀ n ∈ names, Bundle.fit n = true)
    (hk : (Cond.classLink own ik cls).before args s = true) (hini : (Cond.initialized cls).before args s = true) (hstr : vk_R own is text sa s) (hat : ∀ w ∈ vx_atS own ic cls names, w.before args s = true)
    (hgood : ∀ w ∈ Cond.classLink own ik cls :: Cond.initialized cls :: vx_atS own ic cls names, vx_ot w = true)
    (hU : vx_Zq Bundle.tN "UNASSIGNED_STACK" Bundle.steD A s s.heap) (hN : vx_Zq Bundle.tN "SUPPRESSED_SENTINEL" Bundle.listD A s s.heap) (hS : va_S A s.heap H locs) (hsize : ls.size = c.maxLocals)
    (d0 : decode cc pc = .ok (.new ik, 3)) (d3 : decode cc (pc + 3) = .ok (.dup, 1)) (d4 : decode cc (pc + 4) = .ok (.ldc_w is, 3)) (d7 : decode cc (pc + 7) = .ok (.invokespecial ic, 3)) (d10 : decode cc (pc + 10) = .ok (.athrow, 1))
    (hout : ∀ x ∈ c.exceptionTable.toList, covers x (pc + 10) = false)
    (hRframes : names.length + 3 < R.frames) (hRlocals : (rest.map fun v => v.category).sum + (13 * (names.length + 1) + 43) ≤ R.locals) (hRcells : cells + 1 ≤ R.cells) (hRslots : slots + 6 ≤ R.slots) (hlocks : meth.locks = false)
    (hx : ∀ t : State, s.vm.Alike t.vm → H.size ≤ t.heap.size → (∀ q : Nat, q < H.size → t.heap[q]? = H[q]?) → XC cls s t)
    (hf : ∀ z ∈ locs, free z.base) (hc : cells + 1 ≤ mc) (hs : slots + 6 ≤ ms) :
    W p l e R s m args below meth c H locs cells slots (vx_MQ below Qc XC args s mc ms free) (F0 m pc ls rest) := by
  intro T hT X
  have htr : e.platform.stackTraces = false := (show e.platform.stackTraces = l.stackTraces by rw [X.admits.platform]).trans hl
  have Y := vx_rebase X (R' := { frames := R.frames, locals := R.locals, cells := 1, slots := 6 }) (Nat.le_refl _) (Nat.le_refl _) hRcells hRslots
  obtain ⟨s', hA⟩ : ∃ z, z = (T.setVm s.vm).setFrames (.invoking m args :: below) := ⟨_, rfl⟩
  rw [← hA] at Y
  have hvm : s'.vm = s.vm := by rw [hA]; rfl
  have hhp : s'.heap = H := by rw [hA]; exact hT
  have hW0 : s.WarmedH s'.vm := by rw [hvm]; exact State.WarmedH.refl s
  have hat' : ∀ w ∈ vx_atS own ic cls names, w.before args s' = true := fun w hw => vx_ot_at hW0 hvm.symm (hgood w (List.mem_cons_of_mem _ (List.mem_cons_of_mem _ hw))) (hat w hw)
  have hk' : (Cond.classLink own ik cls).before args s' = true := vx_ot_at hW0 hvm.symm (hgood _ List.mem_cons_self) hk
  have hini' : (Cond.initialized cls).before args s' = true := vx_ot_at hW0 hvm.symm (hgood _ (List.mem_cons_of_mem _ List.mem_cons_self)) hini
  have hU' : vx_Zq Bundle.tN "UNASSIGNED_STACK" Bundle.steD A s' s'.heap := by rw [hhp]; exact vx_Zq.moved hW0.alike (hU.kept hS.2.1)
  have hN' : vx_Zq Bundle.tN "SUPPRESSED_SENTINEL" Bundle.listD A s' s'.heap := by rw [hhp]; exact vx_Zq.moved hW0.alike (hN.kept hS.2.1)
  have h : ∀ w ∈ Bundle.ownAtoms own ic cls names, w.before args s' = true := vx_own hat' (vx_isRefq hU'.1) (vx_isRefq hN'.1) hU'.2.word hN'.2.word
  have hown' : s'.vm.findClass own = some m.cls := by rw [hvm]; exact hown
  have hins : (Cond.instantiable cls 6).before args s' = true := h _ (by simp [Bundle.ownAtoms])
  obtain ⟨vm₁, cX, kX, hfX, hkX, -, -, X₁, st1⟩ := Y.newCold hexec (own := own) (C := cls) (index := ik) (n := 6) hown' hk' hins hini'
    (g := F0 m pc ls rest) rfl (by rw [hb]; exact d0) (Nat.le_refl _) (Nat.le_refl _)
  generalize hT1 : (T.setVm vm₁).pushCell { cls := cX, slots := kX.instanceTypes.map defaultValue, vm := .none } = T1 at X₁ st1
  have hcat : (Value.ref T.heap.size).category = 1 := rfl
  have hcellA : T1.heap[T.heap.size]? = some (freshCell cX kX) := by rw [← hT1]; exact State.heap_pushCell_size _ _
  have d3' : decode c.code (pc + 3) = .ok (.dup, 1) := by rw [hb]; exact d3
  have d4' : decode c.code (pc + 4) = .ok (.ldc_w is, 3) := by rw [hb]; exact d4
  have hstr' : vk_R own is text sa s' := vk_R.warm hW0 hstr
  obtain ⟨U, hsteps, hrun, hend, hW, hsame, ce, hce, hO⟩ := X₁.ctorThrowS hexec htr (own := own) (cls := cls) (names := names) (ic := ic) hown' hcls hnames h (fun x hx => nomatch hx) hfX hkX hcellA (by rw [hhp, hT]; exact Nat.le_refl _) (msg := .ref sa) rfl
    (g := { method := m, pc := pc + 7, locals := ls, stack := .ref sa :: .ref T.heap.size :: .ref T.heap.size :: rest, locked := none }) rfl hsize rfl rfl (rest := rest) rfl
    (by rw [hb]; exact d7) (by rw [hb]; exact d10) hout hRframes (by simp only [List.map_cons, List.sum_cons, hcat]; omega) hlocks
  obtain ⟨f1, f2⟩ := vx_frame hsame
  rw [hhp] at f1 f2
  have hWs : s.WarmedH U.vm := State.WarmedH.trans hW0 hW
  have hcl : s.vm.findClass cls = some ce.cls := by
    have h9 := hO.cls
    rw [hvm] at h9
    exact h9
  have hall : s.sameButNew ({ U with vm := s.vm } : State) locs mc ms := by
    subst hA
    obtain ⟨e1, e2⟩ := hsame
    rw [State.setFrames_setFrames] at e1
    have h2 : (T.setVm s.vm).sameButNew ({ U with vm := s.vm } : State) [] (0 + 1) (0 + 6) := ⟨e1, e2⟩
    have h3 := X.same.trans h2
    rw [List.append_nil] at h3
    exact h3.mono hc hs
  refine ⟨U, ?_, .threw T.heap.size, hrun, hend, Or.inr ⟨T.heap.size, rfl, cls, ce, locs, hx U hWs.alike f1 (fun q hq => f2 q hq (fun z hz => nomatch hz)), hce, hO.vm, hcl, hWs, hall, hf⟩⟩
  refine st1 _ ?_
  show Steps p.tables e below (T1.setTop { method := m, pc := pc + 3, locals := ls, stack := .ref T.heap.size :: rest, locked := none }) _
  jvm_step X₁.here [X₁.here.top, hexec, d3', Value.category]
  exact X₁.ldcStringW hexec (own := own) (text := text) (index := is) (a := sa) hown' hstr'.1 hstr'.2
    (g := { method := m, pc := pc + 4, locals := ls, stack := .ref T.heap.size :: .ref T.heap.size :: rest, locked := none }) rfl d4' _ hsteps
end Ends
section Bodies
variable {l : Launch}
theorem vx_ofW {y : MethodName} {ws ws' : List Cond} {rm : Room} {Pc : Array Value → State → Prop} {Qc : Array Value → State → Outcome → State → Prop} {XC : String → State → State → Prop} {mc ms : Nat} {free : Addr → Prop} {cc : ByteArray} {maxL : Nat} {ret : Option FieldType}
    (hy : plainName y.cls = true) (hw : ws = Cond.code y cc maxL ret :: ws')
    (body : ∀ p e s m args below meth c s₁, BodyLoose p l y (headSpec ws rm) cc maxL ret e s m args below meth c s₁ → c.maxLocals = maxL → (∀ x ∈ c.exceptionTable.toList, False) → Pc args s →
      W p l e (headSpec ws rm).room s m args below meth c s.heap [] 0 0 (vx_MQ below Qc XC args s mc ms free) (entryFrame m args maxL)) : vx_Met l y ws rm Pc Qc XC mc ms free := by
  refine MetFree.of_bodyS (code := cc) (maxLocals := maxL) (ret := ret) hy ?_ ?_
  · intro args s m h hn
    obtain ⟨meth, c, h1, h2, h3, h4, h5, h6, -, -⟩ := Cond.code_spec hn (atoms_spec (ws := ws) h _ (by rw [hw]; exact List.mem_cons_self))
    exact ⟨meth, c, h1, h2, h3, h4, h5, h6⟩
  · intro p e s m args below meth c s₁ B hml hP _
    have hh0 : s₁.heap = s.heap := by rw [B.state]; rfl
    have ht : ∀ x ∈ c.exceptionTable.toList, False := by
      obtain ⟨meth9, c9, h1, h2, -, -, -, -, h7, -⟩ := Cond.code_spec B.named (atoms_spec (ws := ws) B.pre _ (by rw [hw]; exact List.mem_cons_self))
      cases Option.some.inj (h1.symm.trans B.method)
      cases Option.some.inj (h2.symm.trans (Stand.of_body B).code)
      intro x hx
      rw [Array.isEmpty_iff.mp h7] at hx
      cases hx
    obtain ⟨t, a1, o, b1, b2, b3⟩ := body p e s m args below meth c s₁ B hml ht hP s₁ hh0 (Stand.of_body B)
    exact ⟨t, o, a1, b1, b2, b3⟩
/-- the table of a body with handlers -/
theorem vx_table {p : Program} {x y : MethodName} {S : Spec} {cc bytes : ByteArray} {maxL maxL' : Nat} {ret ret' : Option FieldType} {e : Env} {s s₁ : State} {m : MethodId} {args : Array Value} {below : List Frame} {meth : Method} {c : Code} {hh : List (Nat × Nat × Nat × Nat)}
    (B : BodyLoose p l y S cc maxL ret e s m args below meth c s₁) (h : (Cond.codeWith y bytes maxL' ret' hh).before args s = true) : c.exceptionTable.toList = tableOf hh := by
  obtain ⟨m9, meth9, c9, hn9, h1, h2, -, -, h6, -⟩ := Cond.codeWith_spec h
  cases Option.some.inj (hn9.symm.trans B.named)
  cases Option.some.inj (h1.symm.trans B.method)
  cases Option.some.inj (h2.symm.trans (Stand.of_body B).code)
  rw [← h6, table_eq]
end Bodies
end VXA
/-! ===== END ===== -/
/-! ===== BEGIN a static call of a method with an exception table ===== -/
section VXS
variable {p : Program} {l : Launch} {e : Env} {R : Room} {s : State} {m : MethodId} {args : Array Value} {below : List Frame} {meth : Method} {c : Code} {T : State} {H : Heap} {locs : List Loc} {cells slots : Nat}
abbrev vx_CSW (R : Room) (s : State) (args : Array Value) (own : String) (index : Nat) (y : MethodName) (bytes : ByteArray) (maxL : Nat) (ret : Option FieldType) (hh : List (Nat × Nat × Nat × Nat)) (ws : List Cond) (rm : Room) (mc ms n : Nat) : Prop :=
  (rm.cells = mc ∧ rm.slots = ms ∧ rm.frames + 1 ≤ R.frames ∧ 8 + (maxL + 11) + rm.locals ≤ R.locals ∧ (∀ w ∈ ws, ∀ (a' : Array Value) (U : State), s.WarmedH U.vm → w.before a' U = true) ∧ Cond.codeWith y bytes maxL ret hh ∈ ws) ∧
  (Cond.codeWith y bytes maxL ret hh).before args s = true ∧ (Cond.initialized y.cls).before args s = true ∧ (y.cls ≠ "java/lang/invoke/MethodHandle" ∧ y.cls ≠ "java/lang/invoke/VarHandle") ∧
  (∀ sig, parseMethodDescriptor y.desc = some sig → n = sig.parameters.length) ∧ (Cond.methodLink own index y).before args s = true ∧ (Cond.static y).before args s = true
theorem vx_cwSW {own : String} {index maxL mc ms : Nat} {y : MethodName} {bytes : ByteArray} {ret : Option FieldType} {hh : List (Nat × Nat × Nat × Nat)} {Ts ws ws' : List Cond} {rm : Room} (n : Nat) (ht : ∀ w ∈ Ts, w.before args s = true) (hT : GoodIn Ts (va_wsS own index y ws)) (hw : ws = Cond.codeWith y bytes maxL ret hh :: ws') (hrc : rm.cells = mc) (hrs : rm.slots = ms)
    (hd : y.cls ≠ "java/lang/invoke/MethodHandle" ∧ y.cls ≠ "java/lang/invoke/VarHandle" ∧ (parseMethodDescriptor y.desc).map (fun d => d.parameters.length) = some n) (hR : rm.frames + 1 ≤ R.frames ∧ 8 + (maxL + 11) + rm.locals ≤ R.locals) :
    vx_CSW R s args own index y bytes maxL ret hh ws rm mc ms n := by
  have ok : ∀ w ∈ va_wsS own index y ws, w.before args s = true := fun w h => ht w (hT w h).1
  have hG : GoodIn Ts ws := fun w h => hT w (by unfold va_wsS; exact List.mem_append_right _ h)
  have hc : Cond.codeWith y bytes maxL ret hh ∈ ws := by rw [hw]; exact List.mem_cons_self
  refine ⟨⟨hrc, hrs, hR.1, hR.2, pay_in ht hG, hc⟩, ht _ (hG _ hc).1, ok _ (by simp [va_wsS]), ⟨hd.1, hd.2.1⟩, fun sig h => ?_, ok _ (by simp [va_wsS]), ok _ (by simp [va_wsS])⟩
  have h2 := hd.2.2
  rw [h] at h2
  exact (Option.some.inj h2).symm
theorem vx_callSW (X : Stand p l e R s m args below meth c T locs cells slots) (hexec : p.tables.exec = Jvm.exec) {own : String} {index : Nat} {y : MethodName} {bytes : ByteArray} {maxL : Nat} {ret : Option FieldType} {hh : List (Nat × Nat × Nat × Nat)}
    (hown : s.vm.findClass own = some m.cls) (hlink : (Cond.methodLink own index y).before args s = true) (hstat : (Cond.static y).before args s = true) (hinit : (Cond.initialized y.cls).before args s = true)
    (hcode : (Cond.codeWith y bytes maxL ret hh).before args s = true) (hy : y.cls ≠ "java/lang/invoke/MethodHandle" ∧ y.cls ≠ "java/lang/invoke/VarHandle")
    {W9 : Nat} {Pre : Pt → Array Value → Prop} {Post : Pt → Array Value → Option Value → Pt → Prop} (hK : Back l R p e below s args y 3 W9 Pre Post)
    {g : JFrame} (hg : g.method = m) (hsize : g.locals.size = c.maxLocals) {argsL rest : List Value} (hlen : ∀ sig, parseMethodDescriptor y.desc = some sig → argsL.length = sig.parameters.length)
    (hstack : g.stack = argsL.reverse ++ rest) (hW : 2 * g.monitorRoom + (rest.map fun v => v.category).sum ≤ W9) (hdg : decode c.code g.pc = .ok (.invokestatic index, 3))
    (hpre : ∀ vm₁, s.WarmedH vm₁ → Pre ⟨T.setVm vm₁, locs, cells, slots⟩ argsL.toArray) :
    ∃ (v : Option Value) (vm₁ : Vm) (B : Pt), s.WarmedH vm₁ ∧ Stand p l e R s m args below meth c B.U B.locs B.cells B.slots ∧ Post ⟨T.setVm vm₁, locs, cells, slots⟩ argsL.toArray v B ∧
      ∀ target, Steps p.tables e below (B.U.setTop { g with pc := g.pc + 3, stack := v.toList ++ rest }) target → Steps p.tables e below (T.setTop g) target := by
  obtain ⟨mk, methM, cM, hnamed, hmethM, -, -, -, -, -, -, hsigM⟩ := Cond.codeWith_spec hcode
  have hstatic : methM.isStatic = true := Cond.static_spec hnamed hmethM hstat
  obtain ⟨kP, hkP, -⟩ := className_of_methodNamed hnamed
  have hinitP : kP.init = .initialized := Cond.initialized_spec (findClass_of_methodNamed hnamed) hkP hinit
  obtain ⟨vm₁, X₁, hstep₁⟩ := X.invokestatic hexec hown hlink hnamed hmethM hstatic hkP hinitP hy (g := g) hg (argsL := argsL) (rest := rest) (hlen _ hsigM) hstack hdg
  obtain ⟨v, B, X', hpost, hsteps⟩ := hK m meth c ⟨T.setVm vm₁, locs, cells, slots⟩ { g with stack := rest } (.invokestatic index) mk argsL.toArray X₁ hg hsize hdg hW (X₁.named hnamed) (hpre vm₁ X₁.warmed)
  exact ⟨v, vm₁, B, X₁.warmed, X', hpost, fun target h => hstep₁ _ fun acts => by rw [doInvoke_state]; exact hsteps.trans h⟩
theorem vx_runSW {y : MethodName} {bytes cc : ByteArray} {maxL nL mc ms n index : Nat} {ret : Option FieldType} {hh : List (Nat × Nat × Nat × Nat)} {ws : List Cond} {rm : Room} {Pc : Array Value → State → Prop} {Qc : Array Value → State → Outcome → State → Prop} {free : Addr → Prop} {Ts : List Cond} {own : String} {As rest : List Value} {g : JFrame}
    (S : CallFix p m c cc nL s args Ts own) (hM : Met l y ws rm Pc Qc mc ms free) (cw : vx_CSW R s args own index y bytes maxL ret hh ws rm mc ms n) (hp : PreS s H Pc As)
    (hg : g.method = m) (hn : As.length = n) (hsize : g.locals.size = nL) (hstack : g.stack = As.reverse ++ rest) (hW : 2 * g.monitorRoom + (rest.map fun v => v.category).sum ≤ 8) (hdg : decode cc g.pc = .ok (.invokestatic index, 3)) (hf : cells + mc ≤ R.cells ∧ slots + ms ≤ R.slots) :
    va_Run p l e R s m args below meth c H locs cells slots mc ms g rest (Qc As.toArray) (free) := by
  obtain ⟨⟨hrc, hrs, hfr, hlo, hws, hcw⟩, hcode, hini, hy, hlen, hl, hstt⟩ := cw
  have hK : Back l R p e below s args y 3 8 (PreOf R mc ms Pc) (PostOf Qc mc ms free) := va_backW (hh := hh) (bytes := bytes) (maxL := maxL) (ret := ret) hM hp.1 hrc hrs hfr hlo hws hcw (fun a' U hW => word_at hW (Or.inl (by first | rfl | simp [Cond.onTables, Cond.keeps, Cond.steady])) hini)
  obtain ⟨hx, hb, hml, ho, -⟩ := S
  intro T hT X
  obtain ⟨v, vm₁, ⟨U', l2, c2, s2⟩, hW₁, X', ⟨g', mk, t, L, e1, e2, hq, h1, hL, h2, h3⟩, st⟩ := vx_callSW X hx (hh := hh) (bytes := bytes) (maxL := maxL) (ret := ret) ho hl hstt hini hcode hy hK hg (hsize.trans hml.symm) (argsL := As) (rest := rest) (fun sig h => hn.trans (hlen sig h)) hstack hW (by rw [hb]; exact hdg)
    (fun vm₁ hW₁ => ⟨hf.1, hf.2, hp.2 (T.setVm vm₁) hT hW₁⟩)
  dsimp only [Pt.U, Pt.locs, Pt.cells, Pt.slots] at X' e1 e2 h1 h2 h3 st
  subst h1; subst h2; subst h3
  exact ⟨v, (T.setVm vm₁).calling g' mk As.toArray, t, U', L, hT, X', hL, e1, e2, hq, st⟩
/-- not caught here, past rows that name other classes: it goes on to the caller -/
theorem vx_outP {p : Program} {l : Launch} {e : Env} {R : Room} {s : State} {m : MethodId} {args : Array Value} {below : List Frame} {meth : Method} {c : Code} {H : Heap} {locs : List Loc} {cells slots : Nat} {free : Addr → Prop} {ls : Array Slot} {rest : List Value} {Qc : Array Value → State → Outcome → State → Prop} {XC : String → State → State → Prop}
    {pc : Nat} {own E : String} {ce : Cell} {q : Addr} {mc ms : Nat} (hown : s.vm.findClass own = some m.cls) (hlocks : meth.locks = false)
    (hpass : ∀ z ∈ c.exceptionTable.toList, covers z pc = false ∨ (z.catchType ≠ 0 ∧ ∃ nm : String, (Cond.classLink own z.catchType nm).before args s = true ∧ va_Nc E nm s)) (hcell : H[q]? = some ce) (hv : ce.vm = .none) (hcl : s.vm.findClass E = some ce.cls)
    (hx : ∀ t : State, t.heap = H → s.vm.Alike t.vm → XC E s t) (hf : ∀ z ∈ locs, free z.base) (hc : cells ≤ mc) (hs : slots ≤ ms) :
    vx_W p l e R s m args below meth c H locs cells slots (vx_MQ below Qc XC args s mc ms free) (F0 m pc ls rest) q := by
  intro T hT X
  have hpl : e.platform.magicAccessors = ({} : Platform).magicAccessors := by rw [X.admits.platform]
  obtain ⟨vm', hW', X', st⟩ := X.outThrough hlocks q (g := F0 m pc ls rest) rfl rfl rfl (cell := ce) (by rw [hT]; exact hcell) (by rw [hv]; rfl)
    (by obtain ⟨k9, h9, -⟩ := Vm.findClass_spec hcl; exact ⟨k9, h9⟩) (fun z hz => by
      rcases hpass z hz with h | ⟨hz0, nm, hl1, hn1⟩
      · exact Or.inl h
      · obtain ⟨c6, hc6, hcl6⟩ := Cond.classLink_spec hown hl1 e.platform hpl
        obtain ⟨a8, b8, h1, h2, h3⟩ := hn1
        cases Option.some.inj (h1.symm.trans hcl)
        cases Option.some.inj (h2.symm.trans hc6)
        exact Or.inr ⟨hz0, _, hcl6, h3⟩)
  obtain ⟨g₀, hfr⟩ := X'.frames_eq
  have hcell9 : ((T.setVm vm').setFrames (.throwing q :: below)).heap[q]? = some ce := by
    show T.heap[q]? = some ce
    rw [hT]; exact hcell
  have hend : Ended ((T.setVm vm').setFrames (.throwing q :: below)) below (.threw q) := State.frames_setFrames _ (State.cur_lt_of_frames hfr)
  refine ⟨(T.setVm vm').setFrames (.throwing q :: below), ?_, .threw q, X'.here.running, hend, Or.inr ⟨q, rfl, E, ce, locs, hx _ hT (X'.ends _).1.alike, hcell9, hv, hcl, (X'.ends _).1, (X'.ends _).2.mono hc hs, hf⟩⟩
  rw [X.pushThrowing_eq]
  exact st
/-- a thing of a world lies in the heap -/
theorem vx_lt {D : va_G} {cl : List vw_C} {ws : va_W} {H1 : Heap} (h : va_P D cl ws H1) {k : Nat} {q : Nat × va_E} (hk : ws[k]? = some q) : q.1 < H1.size := (h k q hk).lt
end VXS
/-! ===== END ===== -/
/-! ===== BEGIN methods with a table of their own: called by a name, returning or throwing ===== -/
section VXH
/-! vx_backW, vx_callVX, vx_callSX, vx_callVW, vx_runVW, vx_runVX, vx_runSX, vx_ofWH follow the same proofs as their sisters above (Free/Laws.lean, Shelf42/LK1.lean); vx_outP calls Shelf42/NT130.lean (outThrough). -/
section
variable {l : Launch} {R : Room} {p : Program} {e : Env} {below : List Frame} {s : State} {sargs : Array Value} {y : MethodName} {len W9 : Nat}
theorem vx_backW {ws : List Cond} {rm : Room} {Pc : Array Value → State → Prop} {Qc : Array Value → State → Outcome → State → Prop} {XC : String → State → State → Prop} {mc ms : Nat} {free : Addr → Prop} {bytes : ByteArray} {maxL : Nat} {ret : Option FieldType} {hh : List (Nat × Nat × Nat × Nat)}
    (hM : vx_Met l y ws rm Pc Qc XC mc ms free) (hblind : FrameBlind Pc) (hrc : rm.cells = mc) (hrs : rm.slots = ms)
    (hframes : rm.frames + 1 ≤ R.frames) (hlocals : W9 + (maxL + 11) + rm.locals ≤ R.locals)
    (hws : ∀ w ∈ ws, ∀ a' U, s.WarmedH U.vm → w.before a' U = true) (hcode : Cond.codeWith y bytes maxL ret hh ∈ ws) (hinit : ∀ a' U, s.WarmedH U.vm → (Cond.initialized y.cls).before a' U = true) :
    vx_Back l R p e below s sargs y len W9 (PreOf R mc ms Pc) (PostOf Qc mc ms free) (vx_Post XC mc ms free) := by
  intro m meth c A g ig mk a X hg hsize hdg hW hn hp
  have h1 : (headSpec ws rm).pre.before a A.U = true := atoms_intro fun w hw => hws w hw _ _ X.warmed
  have h2 : (Cond.codeWith y bytes maxL ret hh).before a A.U = true := hws _ hcode _ _ X.warmed
  have h3 : (Cond.initialized y.cls).before a A.U = true := hinit _ _ X.warmed
  have h4 : A.cells + (headSpec ws rm).room.cells ≤ R.cells := by rw [show (headSpec ws rm).room.cells = mc from hrc]; exact hp.1
  have h5 : A.slots + (headSpec ws rm).room.slots ≤ R.slots := by rw [show (headSpec ws rm).room.slots = ms from hrs]; exact hp.2.1
  have hPc : Pc a (A.U.calling g mk a) := hblind _ _ _ _ hp.2.2
  obtain ⟨U, Ls, c0, s0⟩ := A
  dsimp only [Pt.U, Pt.locs, Pt.cells, Pt.slots] at h1 h2 h3 h4 h5 X hn hPc ⊢
  obtain ⟨m9, methY, cY, hn9, hmY, hcY, -, hlY, -⟩ := Cond.codeWith_spec h2
  cases Option.some.inj (hn9.symm.trans hn)
  obtain ⟨kY, hkY, -⟩ := className_of_methodNamed hn
  have hinitY : kY.init = .initialized := Cond.initialized_spec (findClass_of_methodNamed hn) hkY h3
  have h : At U g.method c below := by rw [hg]; exact X.here
  have hlocals9 : W9 + (maxL + 11) + (headSpec ws rm).room.locals ≤ R.locals := hlocals
  have happ : (headSpec ws rm).appliesLoose y e.platform (U.calling g mk a) = true :=
    Spec.appliesLoose_calling (g := g) h hdg hn hkY hinitY
      (X.room_calling (g := g) (R' := (headSpec ws rm).room) hsize hmY hcY hframes (by rw [hlY]; omega) h4 h5) h1
  obtain ⟨mid, hmid⟩ := h.above
  have hfr : (U.setTop g).frames = (.java g :: mid) ++ below := by rw [State.frames_setTop' g h.top, hmid]; rfl
  obtain ⟨o, s₂, hsteps, -, hend, hq⟩ := Steps.callFree hM p X.admits X.cas X.clock (acts := []) hfr happ hPc trivial
  have hq' : vx_Q Qc XC mc ms free a (U.calling g mk a) o s₂ := hq
  rw [State.frames_setTop' g h.top] at hend
  obtain ⟨g₀, hg0⟩ := Option.isSome_iff_exists.mp h.top
  obtain ⟨r, hr⟩ := State.topJava?_eq_some.mp hg0
  have hr' : (({ U with heap := s₂.heap, slotsUsed := s₂.slotsUsed } : State).setVm s₂.vm).frames = .java g₀ :: r := hr
  rcases hq' with ⟨hqc, L, hfe, hL⟩ | ⟨q, rfl, E, ce, L, hx, hce, hcv, hcl, hW₂, hsm, hL⟩
  · obtain ⟨⟨v, rfl⟩, hW₂, e2, q2, q3, q4, q5, q6⟩ := id hfe
    have e3 : s₂ = ({ (U.calling g mk a).setFrames s₂.frames with heap := s₂.heap, slotsUsed := s₂.slotsUsed } : State).setVm s₂.vm := by
      have : s₂ = ({ s₂ with vm := (U.calling g mk a).vm } : State).setVm s₂.vm := rfl
      rw [e2] at this
      exact this
    obtain ⟨c₂, i₂, len₂, hc₂, hd₂, hf₂⟩ := hend
    have hW' : U.WarmedH s₂.vm := hW₂
    have hcc : c₂ = c := by
      have h1 : s₂.code? g.method = U.code? g.method := by
        rw [State.code?_eq, State.code?_eq, hW'.alike.method?]
      exact Option.some.inj (hc₂.symm.trans (h1.trans h.code))
    subst hcc
    have hlen : len₂ = len := by rw [hdg] at hd₂; cases hd₂; rfl
    subst hlen
    have hs₂ : s₂ = (({ U with heap := s₂.heap, slotsUsed := s₂.slotsUsed } : State).setVm s₂.vm).setTop { g with pc := g.pc + len₂, stack := v.toList ++ g.stack } := by
      refine e3.trans ?_
      rw [hf₂, State.calling_eq h.top, State.setFrames_setFrames, State.setTop_of_frames _ hr', hr]
      rfl
    have hsame : U.sameButNew ({ U with heap := s₂.heap, slotsUsed := s₂.slotsUsed } : State) L mc ms := by
      refine ⟨?_, q2, q3, q4, q5, q6⟩
      obtain ⟨t, ht, -⟩ := State.frames_cons hr
      show ({ U with heap := s₂.heap, slotsUsed := s₂.slotsUsed } : State) = { U.setFrames U.frames with heap := s₂.heap, slotsUsed := s₂.slotsUsed }
      rw [State.setFrames_self ht]
    subst hg
    refine Or.inl ⟨v, ⟨(({ U with heap := s₂.heap, slotsUsed := s₂.slotsUsed } : State).setVm s₂.vm), Ls ++ L, c0 + mc, s0 + ms⟩,
      ⟨X.admits, X.cas, X.clock, X.frames, X.room, X.hears, X.method, X.code, (X.here.setHeapUsed s₂.heap s₂.slotsUsed).setVm hW'.alike, X.tail, State.WarmedH.trans X.warmed hW', X.limits, X.bytes, X.same.trans (hsame.setVm s.vm)⟩,
      ⟨g, mk, s₂, L, rfl, rfl, hqc, rfl, hL, rfl, rfl⟩, ?_⟩
    show Steps p.tables e below _ ((({ U with heap := s₂.heap, slotsUsed := s₂.slotsUsed } : State).setVm s₂.vm).setTop { g with pc := g.pc + len₂, stack := v.toList ++ g.stack })
    rw [← hs₂]
    exact hsteps
  · obtain ⟨e2, q2, q3, q4, q5, q6⟩ := id hsm
    have e3 : s₂ = ({ (U.calling g mk a).setFrames s₂.frames with heap := s₂.heap, slotsUsed := s₂.slotsUsed } : State).setVm s₂.vm := by
      have : s₂ = ({ s₂ with vm := (U.calling g mk a).vm } : State).setVm s₂.vm := rfl
      rw [e2] at this
      exact this
    have hf₂ : s₂.frames = .throwing q :: .java g :: U.frames.tail := hend
    have hW' : U.WarmedH s₂.vm := hW₂
    have hs₂ : s₂ = ((({ U with heap := s₂.heap, slotsUsed := s₂.slotsUsed } : State).setVm s₂.vm).setTop g).pushFrame (.throwing q) := by
      refine e3.trans ?_
      rw [hf₂, State.calling_eq h.top, State.setFrames_setFrames, State.pushFrame, State.frames_setTop _ hr', State.setTop_of_frames _ hr', State.setFrames_setFrames, hr]
      rfl
    have hsame : U.sameButNew ({ U with heap := s₂.heap, slotsUsed := s₂.slotsUsed } : State) L mc ms := by
      refine ⟨?_, q2, q3, q4, q5, q6⟩
      obtain ⟨t, ht, -⟩ := State.frames_cons hr
      show ({ U with heap := s₂.heap, slotsUsed := s₂.slotsUsed } : State) = { U.setFrames U.frames with heap := s₂.heap, slotsUsed := s₂.slotsUsed }
      rw [State.setFrames_self ht]
    subst hg
    refine Or.inr ⟨q, ⟨(({ U with heap := s₂.heap, slotsUsed := s₂.slotsUsed } : State).setVm s₂.vm), Ls ++ L, c0 + mc, s0 + ms⟩,
      ⟨X.admits, X.cas, X.clock, X.frames, X.room, X.hears, X.method, X.code, (X.here.setHeapUsed s₂.heap s₂.slotsUsed).setVm hW'.alike, X.tail, State.WarmedH.trans X.warmed hW', X.limits, X.bytes, X.same.trans (hsame.setVm s.vm)⟩,
      ⟨g, mk, s₂, L, E, ce, rfl, rfl, hx, hce, hcv, hcl, rfl, hL, rfl, rfl⟩, ?_⟩
    show Steps p.tables e below _ (((({ U with heap := s₂.heap, slotsUsed := s₂.slotsUsed } : State).setVm s₂.vm).setTop g).pushFrame (.throwing q))
    rw [← hs₂]
    exact hsteps
end
variable {p : Program} {l : Launch} {e : Env} {R : Room} {s : State} {m : MethodId} {args : Array Value} {below : List Frame} {meth : Method} {c : Code} {T : State} {H : Heap} {locs : List Loc} {cells slots : Nat}
theorem vx_callVX (X : Stand p l e R s m args below meth c T locs cells slots) (hexec : p.tables.exec = Jvm.exec) {own C : String} {index : Nat} {y : MethodName} {bytes : ByteArray} {maxL : Nat} {ret : Option FieldType} {hh : List (Nat × Nat × Nat × Nat)}
    (hown : s.vm.findClass own = some m.cls) (hlink : (Cond.methodLink own index y).before args s = true) (hinst : (Cond.instanceMethod y).before args s = true) (hsel : (Cond.selects C y y).before args s = true)
    (hcode : (Cond.codeWith y bytes maxL ret hh).before args s = true) (hy : y.cls ≠ "java/lang/invoke/MethodHandle" ∧ y.cls ≠ "java/lang/invoke/VarHandle")
    {W9 : Nat} {Pre : Pt → Array Value → Prop} {Post : Pt → Array Value → Option Value → Pt → Prop} {PostX : Pt → Array Value → Addr → Pt → Prop} (hK : vx_Back l R p e below s args y 3 W9 Pre Post PostX)
    {b : Addr} {cellB : Cell} (hcell : T.heap[b]? = some cellB) (hobj : cellB.vm.isStatics = false) (hcls : s.vm.findClass C = some cellB.cls)
    {g : JFrame} (hg : g.method = m) (hsize : g.locals.size = c.maxLocals) {argsL rest : List Value} (hlen : ∀ sig, parseMethodDescriptor y.desc = some sig → argsL.length = sig.parameters.length)
    (hstack : g.stack = argsL.reverse ++ .ref b :: rest) (hW : 2 * g.monitorRoom + (rest.map fun v => v.category).sum ≤ W9) (hdg : decode c.code g.pc = .ok (.invokevirtual index, 3))
    (hpre : ∀ vm₁, s.WarmedH vm₁ → Pre ⟨T.setVm vm₁, locs, cells, slots⟩ (Value.ref b :: argsL).toArray) :
    (∃ (v : Option Value) (vm₁ : Vm) (B : Pt), s.WarmedH vm₁ ∧ Stand p l e R s m args below meth c B.U B.locs B.cells B.slots ∧ Post ⟨T.setVm vm₁, locs, cells, slots⟩ (Value.ref b :: argsL).toArray v B ∧
      ∀ target, Steps p.tables e below (B.U.setTop { g with pc := g.pc + 3, stack := v.toList ++ rest }) target → Steps p.tables e below (T.setTop g) target) ∨
    (∃ (q : Addr) (vm₁ : Vm) (B : Pt), s.WarmedH vm₁ ∧ Stand p l e R s m args below meth c B.U B.locs B.cells B.slots ∧ PostX ⟨T.setVm vm₁, locs, cells, slots⟩ (Value.ref b :: argsL).toArray q B ∧
      Steps p.tables e below (T.setTop g) ((B.U.setTop { g with stack := rest }).pushFrame (.throwing q))) := by
  obtain ⟨mk, methM, hnamed, hmethM, hstM, habM⟩ := Cond.instanceMethod_spec hinst
  obtain ⟨m8, methM', cM, hn8, hmethM', -, -, -, -, -, -, hsigM⟩ := Cond.codeWith_spec hcode
  cases Option.some.inj (hn8.symm.trans hnamed)
  cases hmethM.symm.trans hmethM'
  obtain ⟨c2, r2, m2, q1, q2, q3, q4, kP, hkP, hkPi⟩ := Cond.selects_spec hsel
  cases hcls.symm.trans q1
  cases (State.methodFound?_of_named hnamed hy).symm.trans q2
  cases hnamed.symm.trans q3
  have hselP : selectMethod e.platform s.vm cellB.cls mk = .method mk := by rw [Launch.admits_selectMethod X.admits]; exact q4
  obtain ⟨vm₁, X₁, hstep₁⟩ := X.invokevirtual hexec hown hlink hnamed hmethM hstM hkP hkPi hy (a := b) (cell := cellB) hcell
    (fun z h => by rw [h] at hobj; cases hobj) hselP hmethM habM hkP hkPi (g := g) hg (argsL := argsL) (rest := rest) (hlen _ hsigM) hstack hdg
  rcases hK m meth c ⟨T.setVm vm₁, locs, cells, slots⟩ { g with stack := rest } (.invokevirtual index) mk (Value.ref b :: argsL).toArray X₁ hg hsize hdg hW (X₁.named hnamed) (hpre vm₁ X₁.warmed) with ⟨v, B, X', hpost, hsteps⟩ | ⟨q, B, X', hpost, hsteps⟩
  · exact Or.inl ⟨v, vm₁, B, X₁.warmed, X', hpost, fun target h => hstep₁ _ fun acts => by rw [doInvoke_state]; exact hsteps.trans h⟩
  · exact Or.inr ⟨q, vm₁, B, X₁.warmed, X', hpost, hstep₁ _ fun acts => by rw [doInvoke_state]; exact hsteps⟩
theorem vx_callSX (X : Stand p l e R s m args below meth c T locs cells slots) (hexec : p.tables.exec = Jvm.exec) {own : String} {index : Nat} {y : MethodName} {bytes : ByteArray} {maxL : Nat} {ret : Option FieldType} {hh : List (Nat × Nat × Nat × Nat)}
    (hown : s.vm.findClass own = some m.cls) (hlink : (Cond.methodLink own index y).before args s = true) (hstat : (Cond.static y).before args s = true) (hinit : (Cond.initialized y.cls).before args s = true)
    (hcode : (Cond.codeWith y bytes maxL ret hh).before args s = true) (hy : y.cls ≠ "java/lang/invoke/MethodHandle" ∧ y.cls ≠ "java/lang/invoke/VarHandle")
    {W9 : Nat} {Pre : Pt → Array Value → Prop} {Post : Pt → Array Value → Option Value → Pt → Prop} {PostX : Pt → Array Value → Addr → Pt → Prop} (hK : vx_Back l R p e below s args y 3 W9 Pre Post PostX)
    {g : JFrame} (hg : g.method = m) (hsize : g.locals.size = c.maxLocals) {argsL rest : List Value} (hlen : ∀ sig, parseMethodDescriptor y.desc = some sig → argsL.length = sig.parameters.length)
    (hstack : g.stack = argsL.reverse ++ rest) (hW : 2 * g.monitorRoom + (rest.map fun v => v.category).sum ≤ W9) (hdg : decode c.code g.pc = .ok (.invokestatic index, 3))
    (hpre : ∀ vm₁, s.WarmedH vm₁ → Pre ⟨T.setVm vm₁, locs, cells, slots⟩ argsL.toArray) :
    (∃ (v : Option Value) (vm₁ : Vm) (B : Pt), s.WarmedH vm₁ ∧ Stand p l e R s m args below meth c B.U B.locs B.cells B.slots ∧ Post ⟨T.setVm vm₁, locs, cells, slots⟩ argsL.toArray v B ∧
      ∀ target, Steps p.tables e below (B.U.setTop { g with pc := g.pc + 3, stack := v.toList ++ rest }) target → Steps p.tables e below (T.setTop g) target) ∨
    (∃ (q : Addr) (vm₁ : Vm) (B : Pt), s.WarmedH vm₁ ∧ Stand p l e R s m args below meth c B.U B.locs B.cells B.slots ∧ PostX ⟨T.setVm vm₁, locs, cells, slots⟩ argsL.toArray q B ∧
      Steps p.tables e below (T.setTop g) ((B.U.setTop { g with stack := rest }).pushFrame (.throwing q))) := by
  obtain ⟨mk, methM, cM, hnamed, hmethM, -, -, -, -, -, -, hsigM⟩ := Cond.codeWith_spec hcode
  have hstatic : methM.isStatic = true := Cond.static_spec hnamed hmethM hstat
  obtain ⟨kP, hkP, -⟩ := className_of_methodNamed hnamed
  have hinitP : kP.init = .initialized := Cond.initialized_spec (findClass_of_methodNamed hnamed) hkP hinit
  obtain ⟨vm₁, X₁, hstep₁⟩ := X.invokestatic hexec hown hlink hnamed hmethM hstatic hkP hinitP hy (g := g) hg (argsL := argsL) (rest := rest) (hlen _ hsigM) hstack hdg
  rcases hK m meth c ⟨T.setVm vm₁, locs, cells, slots⟩ { g with stack := rest } (.invokestatic index) mk argsL.toArray X₁ hg hsize hdg hW (X₁.named hnamed) (hpre vm₁ X₁.warmed) with ⟨v, B, X', hpost, hsteps⟩ | ⟨q, B, X', hpost, hsteps⟩
  · exact Or.inl ⟨v, vm₁, B, X₁.warmed, X', hpost, fun target h => hstep₁ _ fun acts => by rw [doInvoke_state]; exact hsteps.trans h⟩
  · exact Or.inr ⟨q, vm₁, B, X₁.warmed, X', hpost, hstep₁ _ fun acts => by rw [doInvoke_state]; exact hsteps⟩
theorem vx_callVW (X : Stand p l e R s m args below meth c T locs cells slots) (hexec : p.tables.exec = Jvm.exec) {own C : String} {index : Nat} {y : MethodName} {bytes : ByteArray} {maxL : Nat} {ret : Option FieldType} {hh : List (Nat × Nat × Nat × Nat)}
    (hown : s.vm.findClass own = some m.cls) (hlink : (Cond.methodLink own index y).before args s = true) (hinst : (Cond.instanceMethod y).before args s = true) (hsel : (Cond.selects C y y).before args s = true)
    (hcode : (Cond.codeWith y bytes maxL ret hh).before args s = true) (hy : y.cls ≠ "java/lang/invoke/MethodHandle" ∧ y.cls ≠ "java/lang/invoke/VarHandle")
    {W9 : Nat} {Pre : Pt → Array Value → Prop} {Post : Pt → Array Value → Option Value → Pt → Prop} (hK : Back l R p e below s args y 3 W9 Pre Post)
    {b : Addr} {cellB : Cell} (hcell : T.heap[b]? = some cellB) (hobj : cellB.vm.isStatics = false) (hcls : s.vm.findClass C = some cellB.cls)
    {g : JFrame} (hg : g.method = m) (hsize : g.locals.size = c.maxLocals) {argsL rest : List Value} (hlen : ∀ sig, parseMethodDescriptor y.desc = some sig → argsL.length = sig.parameters.length)
    (hstack : g.stack = argsL.reverse ++ .ref b :: rest) (hW : 2 * g.monitorRoom + (rest.map fun v => v.category).sum ≤ W9) (hdg : decode c.code g.pc = .ok (.invokevirtual index, 3))
    (hpre : ∀ vm₁, s.WarmedH vm₁ → Pre ⟨T.setVm vm₁, locs, cells, slots⟩ (Value.ref b :: argsL).toArray) :
    ∃ (v : Option Value) (vm₁ : Vm) (B : Pt), s.WarmedH vm₁ ∧ Stand p l e R s m args below meth c B.U B.locs B.cells B.slots ∧ Post ⟨T.setVm vm₁, locs, cells, slots⟩ (Value.ref b :: argsL).toArray v B ∧
      ∀ target, Steps p.tables e below (B.U.setTop { g with pc := g.pc + 3, stack := v.toList ++ rest }) target → Steps p.tables e below (T.setTop g) target := by
  obtain ⟨mk, methM, hnamed, hmethM, hstM, habM⟩ := Cond.instanceMethod_spec hinst
  obtain ⟨m8, methM', cM, hn8, hmethM', -, -, -, -, -, -, hsigM⟩ := Cond.codeWith_spec hcode
  cases Option.some.inj (hn8.symm.trans hnamed)
  cases hmethM.symm.trans hmethM'
  obtain ⟨c2, r2, m2, q1, q2, q3, q4, kP, hkP, hkPi⟩ := Cond.selects_spec hsel
  cases hcls.symm.trans q1
  cases (State.methodFound?_of_named hnamed hy).symm.trans q2
  cases hnamed.symm.trans q3
  have hselP : selectMethod e.platform s.vm cellB.cls mk = .method mk := by rw [Launch.admits_selectMethod X.admits]; exact q4
  obtain ⟨vm₁, X₁, hstep₁⟩ := X.invokevirtual hexec hown hlink hnamed hmethM hstM hkP hkPi hy (a := b) (cell := cellB) hcell
    (fun z h => by rw [h] at hobj; cases hobj) hselP hmethM habM hkP hkPi (g := g) hg (argsL := argsL) (rest := rest) (hlen _ hsigM) hstack hdg
  obtain ⟨v, B, X', hpost, hsteps⟩ := hK m meth c ⟨T.setVm vm₁, locs, cells, slots⟩ { g with stack := rest } (.invokevirtual index) mk (Value.ref b :: argsL).toArray X₁ hg hsize hdg hW (X₁.named hnamed) (hpre vm₁ X₁.warmed)
  exact ⟨v, vm₁, B, X₁.warmed, X', hpost, fun target h => hstep₁ _ fun acts => by rw [doInvoke_state]; exact hsteps.trans h⟩
abbrev vx_CVW (R : Room) (s : State) (args : Array Value) (own C : String) (index : Nat) (y : MethodName) (bytes : ByteArray) (maxL : Nat) (ret : Option FieldType) (hh : List (Nat × Nat × Nat × Nat)) (ws : List Cond) (rm : Room) (mc ms n : Nat) : Prop :=
  (rm.cells = mc ∧ rm.slots = ms ∧ rm.frames + 1 ≤ R.frames ∧ 8 + (maxL + 11) + rm.locals ≤ R.locals ∧ (∀ w ∈ ws, ∀ (a' : Array Value) (U : State), s.WarmedH U.vm → w.before a' U = true) ∧ Cond.codeWith y bytes maxL ret hh ∈ ws) ∧
  (Cond.codeWith y bytes maxL ret hh).before args s = true ∧ (Cond.initialized y.cls).before args s = true ∧ (y.cls ≠ "java/lang/invoke/MethodHandle" ∧ y.cls ≠ "java/lang/invoke/VarHandle") ∧
  (∀ sig, parseMethodDescriptor y.desc = some sig → n = sig.parameters.length) ∧ (Cond.methodLink own index y).before args s = true ∧ (Cond.instanceMethod y).before args s = true ∧ (Cond.selects C y y).before args s = true
theorem vx_cwVW {own C : String} {index maxL mc ms : Nat} {y : MethodName} {bytes : ByteArray} {ret : Option FieldType} {hh : List (Nat × Nat × Nat × Nat)} {Ts ws ws' : List Cond} {rm : Room} (n : Nat) (ht : ∀ w ∈ Ts, w.before args s = true) (hT : GoodIn Ts (wsV own index C y ws)) (hw : ws = Cond.codeWith y bytes maxL ret hh :: ws') (hrc : rm.cells = mc) (hrs : rm.slots = ms)
    (hd : y.cls = C ∧ y.cls ≠ "java/lang/invoke/MethodHandle" ∧ y.cls ≠ "java/lang/invoke/VarHandle" ∧ (parseMethodDescriptor y.desc).map (fun d => d.parameters.length) = some n) (hR : rm.frames + 1 ≤ R.frames ∧ 8 + (maxL + 11) + rm.locals ≤ R.locals) :
    vx_CVW R s args own C index y bytes maxL ret hh ws rm mc ms n := by
  obtain ⟨hC, hd⟩ := hd
  subst hC
  have ok : ∀ w ∈ wsV own index y.cls y ws, w.before args s = true := fun w h => ht w (hT w h).1
  have hG : GoodIn Ts ws := fun w h => hT w (by unfold wsV; exact List.mem_append_right _ h)
  have hc : Cond.codeWith y bytes maxL ret hh ∈ ws := by rw [hw]; exact List.mem_cons_self
  refine ⟨⟨hrc, hrs, hR.1, hR.2, pay_in ht hG, hc⟩, ht _ (hG _ hc).1, ok _ (by simp [wsV]), ⟨hd.1, hd.2.1⟩, fun sig h => ?_, ok _ (by simp [wsV]), ok _ (by simp [wsV]), ok _ (by simp [wsV])⟩
  have h2 := hd.2.2
  rw [h] at h2
  exact (Option.some.inj h2).symm
theorem vx_runVW {y : MethodName} {bytes cc : ByteArray} {maxL nL mc ms n index : Nat} {ret : Option FieldType} {hh : List (Nat × Nat × Nat × Nat)} {ws : List Cond} {rm : Room} {Pc : Array Value → State → Prop} {Qc : Array Value → State → Outcome → State → Prop} {free : Addr → Prop} {Ts : List Cond} {own C : String} {b : Addr} {As rest : List Value} {g : JFrame}
    (S : CallFix p m c cc nL s args Ts own) (hM : Met l y ws rm Pc Qc mc ms free) (cw : vx_CVW R s args own C index y bytes maxL ret hh ws rm mc ms n) (hp : PreV s H C b Pc As)
    (hg : g.method = m) (hn : As.length = n) (hsize : g.locals.size = nL) (hstack : g.stack = As.reverse ++ .ref b :: rest) (hW : 2 * g.monitorRoom + (rest.map fun v => v.category).sum ≤ 8) (hdg : decode cc g.pc = .ok (.invokevirtual index, 3)) (hf : cells + mc ≤ R.cells ∧ slots + ms ≤ R.slots) :
    va_Run p l e R s m args below meth c H locs cells slots mc ms g rest (Qc (Value.ref b :: As).toArray) free := by
  obtain ⟨⟨hrc, hrs, hfr, hlo, hws, hcw⟩, hcode, hini, hy, hlen, hl, hin, hse⟩ := cw
  have hK : Back l R p e below s args y 3 8 (PreOf R mc ms Pc) (PostOf Qc mc ms free) := va_backW (hh := hh) (bytes := bytes) (maxL := maxL) (ret := ret) hM hp.1 hrc hrs hfr hlo hws hcw (fun a' U hW => word_at hW (Or.inl (by first | rfl | simp [Cond.onTables, Cond.keeps, Cond.steady])) hini)
  obtain ⟨hx, hb, hml, ho, -⟩ := S
  obtain ⟨-, ⟨cellB, hcB, hoB, hclB⟩, hPc⟩ := hp
  intro T hT X
  obtain ⟨v, vm₁, ⟨U', l2, c2, s2⟩, hW₁, X', ⟨g', mk, t, L, e1, e2, hq, h1, hL, h2, h3⟩, st⟩ := vx_callVW X hx (C := C) (hh := hh) (bytes := bytes) (maxL := maxL) (ret := ret) ho hl hin hse hcode hy hK (by rw [hT]; exact hcB) hoB hclB hg (hsize.trans hml.symm) (argsL := As) (rest := rest) (fun sig h => hn.trans (hlen sig h)) hstack hW (by rw [hb]; exact hdg)
    (fun vm₁ hW₁ => ⟨hf.1, hf.2, hPc (T.setVm vm₁) hT hW₁⟩)
  dsimp only [Pt.U, Pt.locs, Pt.cells, Pt.slots] at X' e1 e2 h1 h2 h3 st
  subst h1; subst h2; subst h3
  exact ⟨v, (T.setVm vm₁).calling g' mk (Value.ref b :: As).toArray, t, U', L, hT, X', hL, e1, e2, hq, st⟩
section
variable {y : MethodName} {bytes cc : ByteArray} {maxL nL mc ms n index : Nat} {ret : Option FieldType} {ws : List Cond} {rm : Room} {Pc : Array Value → State → Prop} {Qc : Array Value → State → Outcome → State → Prop} {XC : String → State → State → Prop} {free : Addr → Prop} {Ts : List Cond} {own C : String} {b : Addr} {As rest : List Value} {g : JFrame}
theorem vx_runVX {hh : List (Nat × Nat × Nat × Nat)} (S : CallFix p m c cc nL s args Ts own) (hM : vx_Met l y ws rm Pc Qc XC mc ms free) (cw : vx_CVW R s args own C index y bytes maxL ret hh ws rm mc ms n) (hp : PreV s H C b Pc As)
    (hg : g.method = m) (hn : As.length = n) (hsize : g.locals.size = nL) (hstack : g.stack = As.reverse ++ .ref b :: rest) (hW : 2 * g.monitorRoom + (rest.map fun v => v.category).sum ≤ 8) (hdg : decode cc g.pc = .ok (.invokevirtual index, 3)) (hf : cells + mc ≤ R.cells ∧ slots + ms ≤ R.slots) :
    vx_Run p l e R s m args below meth c H locs cells slots mc ms g rest (Qc (Value.ref b :: As).toArray) XC free := by
  obtain ⟨⟨hrc, hrs, hfr, hlo, hws, hcw⟩, hcode, hini, hy, hlen, hl, hin, hse⟩ := cw
  have hK : vx_Back l R p e below s args y 3 8 (PreOf R mc ms Pc) (PostOf Qc mc ms free) (vx_Post XC mc ms free) := vx_backW (hh := hh) (bytes := bytes) (maxL := maxL) (ret := ret) hM hp.1 hrc hrs hfr hlo hws hcw (fun a' U hW => word_at hW (Or.inl (by first | rfl | simp [Cond.onTables, Cond.keeps, Cond.steady])) hini)
  obtain ⟨hx, hb, hml, ho, -⟩ := S
  obtain ⟨-, ⟨cellB, hcB, hoB, hclB⟩, hPc⟩ := hp
  intro T hT X
  rcases vx_callVX X hx (C := C) (hh := hh) (bytes := bytes) (maxL := maxL) (ret := ret) ho hl hin hse hcode hy hK (by rw [hT]; exact hcB) hoB hclB hg (hsize.trans hml.symm) (argsL := As) (rest := rest) (fun sig h => hn.trans (hlen sig h)) hstack hW (by rw [hb]; exact hdg)
    (fun vm₁ hW₁ => ⟨hf.1, hf.2, hPc (T.setVm vm₁) hT hW₁⟩) with ⟨v, vm₁, ⟨U', l2, c2, s2⟩, hW₁, X', ⟨g', mk, t, L, e1, e2, hq, h1, hL, h2, h3⟩, st⟩ | ⟨q, vm₁, ⟨U', l2, c2, s2⟩, hW₁, X', ⟨g', mk, t, L, E, ce, e1, e2, hq, hce, hcv, hcl, h1, hL, h2, h3⟩, st⟩
  · dsimp only [Pt.U, Pt.locs, Pt.cells, Pt.slots] at X' e1 e2 h1 h2 h3 st
    subst h1; subst h2; subst h3
    exact Or.inl ⟨v, (T.setVm vm₁).calling g' mk (Value.ref b :: As).toArray, t, U', L, hT, X', hL, e1, e2, hq, st⟩
  · dsimp only [Pt.U, Pt.locs, Pt.cells, Pt.slots] at X' e1 e2 h1 h2 h3 st hcl
    subst h1; subst h2; subst h3
    exact Or.inr ⟨q, (T.setVm vm₁).calling g' mk (Value.ref b :: As).toArray, t, U', L, E, ce, hT, X', hL, e1, e2, hq, hce, hcv, vx_cls hW₁ hcl, st⟩
theorem vx_runSX {hh : List (Nat × Nat × Nat × Nat)} (S : CallFix p m c cc nL s args Ts own) (hM : vx_Met l y ws rm Pc Qc XC mc ms free) (cw : vx_CSW R s args own index y bytes maxL ret hh ws rm mc ms n) (hp : PreS s H Pc As)
    (hg : g.method = m) (hn : As.length = n) (hsize : g.locals.size = nL) (hstack : g.stack = As.reverse ++ rest) (hW : 2 * g.monitorRoom + (rest.map fun v => v.category).sum ≤ 8) (hdg : decode cc g.pc = .ok (.invokestatic index, 3)) (hf : cells + mc ≤ R.cells ∧ slots + ms ≤ R.slots) :
    vx_Run p l e R s m args below meth c H locs cells slots mc ms g rest (Qc As.toArray) XC free := by
  obtain ⟨⟨hrc, hrs, hfr, hlo, hws, hcw⟩, hcode, hini, hy, hlen, hl, hstt⟩ := cw
  have hK : vx_Back l R p e below s args y 3 8 (PreOf R mc ms Pc) (PostOf Qc mc ms free) (vx_Post XC mc ms free) := vx_backW (hh := hh) (bytes := bytes) (maxL := maxL) (ret := ret) hM hp.1 hrc hrs hfr hlo hws hcw (fun a' U hW => word_at hW (Or.inl (by first | rfl | simp [Cond.onTables, Cond.keeps, Cond.steady])) hini)
  obtain ⟨hx, hb, hml, ho, -⟩ := S
  intro T hT X
  rcases vx_callSX X hx (hh := hh) (bytes := bytes) (maxL := maxL) (ret := ret) ho hl hstt hini hcode hy hK hg (hsize.trans hml.symm) (argsL := As) (rest := rest) (fun sig h => hn.trans (hlen sig h)) hstack hW (by rw [hb]; exact hdg)
    (fun vm₁ hW₁ => ⟨hf.1, hf.2, hp.2 (T.setVm vm₁) hT hW₁⟩) with ⟨v, vm₁, ⟨U', l2, c2, s2⟩, hW₁, X', ⟨g', mk, t, L, e1, e2, hq, h1, hL, h2, h3⟩, st⟩ | ⟨q, vm₁, ⟨U', l2, c2, s2⟩, hW₁, X', ⟨g', mk, t, L, E, ce, e1, e2, hq, hce, hcv, hcl, h1, hL, h2, h3⟩, st⟩
  · dsimp only [Pt.U, Pt.locs, Pt.cells, Pt.slots] at X' e1 e2 h1 h2 h3 st
    subst h1; subst h2; subst h3
    exact Or.inl ⟨v, (T.setVm vm₁).calling g' mk As.toArray, t, U', L, hT, X', hL, e1, e2, hq, st⟩
  · dsimp only [Pt.U, Pt.locs, Pt.cells, Pt.slots] at X' e1 e2 h1 h2 h3 st hcl
    subst h1; subst h2; subst h3
    exact Or.inr ⟨q, (T.setVm vm₁).calling g' mk As.toArray, t, U', L, E, ce, hT, X', hL, e1, e2, hq, hce, hcv, vx_cls hW₁ hcl, st⟩
end
end VXH
theorem vx_ofWH {l : Launch} {y : MethodName} {ws ws' : List Cond} {rm : Room} {Pc : Array Value → State → Prop} {Qc : Array Value → State → Outcome → State → Prop} {XC : String → State → State → Prop} {mc ms : Nat} {free : Addr → Prop} {cc : ByteArray} {maxL : Nat} {ret : Option FieldType} {hh : List (Nat × Nat × Nat × Nat)}
    (hy : plainName y.cls = true) (hw : ws = Cond.codeWith y cc maxL ret hh :: ws')
    (body : ∀ p e s m args below meth c s₁, BodyLoose p l y (headSpec ws rm) cc maxL ret e s m args below meth c s₁ → c.maxLocals = maxL → Pc args s →
      W p l e (headSpec ws rm).room s m args below meth c s.heap [] 0 0 (vx_MQ below Qc XC args s mc ms free) (entryFrame m args maxL)) : vx_Met l y ws rm Pc Qc XC mc ms free := by
  refine MetFree.of_bodyS (code := cc) (maxLocals := maxL) (ret := ret) hy ?_ ?_
  · intro args s m h hn
    obtain ⟨m9, meth, c, hn9, h1, h2, h3, h4, -, h5, h6, -⟩ := Cond.codeWith_spec (atoms_spec (ws := ws) h _ (by rw [hw]; exact List.mem_cons_self))
    cases hn.symm.trans hn9
    exact ⟨meth, c, h1, h2, h3, h4, h5, h6⟩
  · intro p e s m args below meth c s₁ B hml hP _
    have hh0 : s₁.heap = s.heap := by rw [B.state]; rfl
    obtain ⟨t, a1, o, b1, b2, b3⟩ := body p e s m args below meth c s₁ B hml hP s₁ hh0 (Stand.of_body B)
    exact ⟨t, o, a1, b1, b2, b3⟩
/-! ===== END ===== -/
/-! ===== BEGIN what the machine throws by itself, no traces kept ===== -/
section VXM
set_option maxHeartbeats 1000000 in
/-- the machine throws cls with the message text, no traces kept: from its note over the frame g to 'throwing' over the same frame (follows the proofs of Stand.vmThrowsMessage, Shelf/KitTracedVmS.lean, and Stand.throwsMessageColdBareV, StandMessageColdV.lean, without the step out of the frame) -/
theorem vx_vmAt {p : Program} {l : Launch} {e : Env} {R : Room} {s : State} {m₀ : MethodId} {args : Array Value} {below : List Frame} {meth : Method} {c : Code} {W : State} {locs : List Loc} {cells slots : Nat}
    (X : Stand p l e R s m₀ args below meth c W locs cells slots) (hexec : p.tables.exec = Jvm.exec) (htr : e.platform.stackTraces = false) {cls : String} {names : List String} {text : String}
    (hcls : Bundle.fit cls = true) (hnames : ∀ n ∈ names, Bundle.fit n = true) (hsoe : (cls == "java/lang/StackOverflowError") = false) (hoom : (cls == "java/lang/OutOfMemoryError") = false)
    (h : ∀ a ∈ Bundle.messageArmAtoms cls names, a.before args s = true)
    (hlocs : ∀ x ∈ locs, ∀ cell, s.heap[x.base]? = some cell → cell.vm.isStatics = false)
    (htext : (text == notModelled) = false) (hlimit : ¬ (stringBytes (stringToUtf16 text)).size > e.platform.arrayLengthLimit) (hheap : ¬ (stringBytes (stringToUtf16 text)).size * componentBytes .byte > e.platform.maxHeapBytes)
    {g : JFrame} (hg : g.method = m₀) (hsize : g.locals.size = c.maxLocals)
    (hRframes : names.length + 4 < R.frames) (hRlocals : 2 * g.monitorRoom + (g.stack.map fun v => v.category).sum + 10240 ≤ R.locals) (hshort : 13 * names.length + 55 ≤ 10240)
    (hRcells : cells + 3 ≤ R.cells) (hRslots : slots + ((stringBytes (stringToUtf16 text)).size + 4 + 6) ≤ R.slots) (hlocks : meth.locks = false) :
    ∃ (S : State) (q : Addr) (ce : Cell), (∀ target, Steps p.tables e below ((S.setTop g).pushFrame (.throwing q)) target → Steps p.tables e below ((W.setTop g).pushFrame (.throwNew cls (some text) none)) target) ∧
      Stand p l e R s m₀ args below meth c S locs (cells + 3) (slots + ((stringBytes (stringToUtf16 text)).size + 4 + 6)) ∧ S.heap[q]? = some ce ∧ s.vm.findClass cls = some ce.cls ∧ ce.vm = .none := by
  have howns : e.platform.frameOwnsMonitors = true := by rw [X.admits.platform]
  have hfin : e.platform.finalization = false := by rw [X.admits.platform]
  have hpl : e.platform.magicAccessors = ({} : Platform).magicAccessors := by rw [X.admits.platform]
  have a : ∀ x, x ∈ Bundle.messageArmAtoms cls names → x.holds args s none s [] = true := fun x hx => h x hx
  obtain ⟨T, Z0, L, -, Y⟩ := ThrowableC.of_atoms (args := args) howns hfin hpl (fun x hx => h x (by simp [Bundle.messageArmAtoms, hx]))
  obtain ⟨Z, M, LZ, LM, hnZ⟩ := Init0T.ofS_atoms (args := args) hpl L Y (fun x hx => h x (by simp [Bundle.messageArmAtoms, hx]))
  obtain ⟨P1, Ps, hlen, L1, hL, hP1m, hlink1, hlink⟩ := Bundle.chainS (args := args) hpl hnZ names cls hcls hnames (fun x hx => h x (by simp [Bundle.messageArmAtoms, hx]))
  obtain ⟨Zs, LZs, hn4, hfitv, hfitc⟩ := StringT.of_atoms (args := args) (fun x hx => h x (by simp [Bundle.messageArmAtoms, hx]))
  have hfound : s.vm.findClass cls = some P1.m.cls := findClass_of_methodNamed hP1m
  obtain ⟨c1, kX, hc1, hk, hord, -, -, hn6⟩ := Cond.instantiable_spec (a (.instantiable cls 6) (by simp [Bundle.messageArmAtoms]))
  cases Option.some.inj (hc1.symm.trans hfound)
  have hinit := Cond.initialized_spec hfound hk (a (.initialized cls) (by simp [Bundle.messageArmAtoms]))
  have hctor : kX.findMethod "<init>" "(Ljava/lang/String;)V" = some P1.m.idx := findMethod_of_methodNamed hP1m hk
  have hsel0 : selectMethod e.platform s.vm P1.m.cls T.fill0 = .method T.fill0 := by
    obtain ⟨c2, r2, m2, q1, q2, q3, q4, -⟩ := Cond.selects_spec (a (.selects cls Bundle.tFill0 Bundle.tFill0) (by simp [Bundle.messageArmAtoms]))
    cases Option.some.inj (q1.symm.trans hfound)
    cases Option.some.inj (q2.symm.trans (State.methodFound?_of_named Y.fill0 (by decide)))
    cases Option.some.inj (q3.symm.trans Y.fill0)
    rw [Launch.admits_selectMethod X.admits]; exact q4
  have hselF : selectMethod e.platform s.vm P1.m.cls T.fill = .method T.fill := by
    obtain ⟨c2, r2, m2, q1, q2, q3, q4, -⟩ := Cond.selects_spec (a (.selects cls Bundle.tFill Bundle.tFill) (by simp [Bundle.messageArmAtoms]))
    cases Option.some.inj (q1.symm.trans hfound)
    cases Option.some.inj (q2.symm.trans (State.methodFound?_of_named Y.fill (by decide)))
    cases Option.some.inj (q3.symm.trans Y.fill)
    rw [Launch.admits_selectMethod X.admits]; exact q4
  obtain ⟨cellS0, hcS0, hiss⟩ := Y.statics
  obtain ⟨u0, hu0⟩ := Cond.staticRefV Y.unassigned L.unassignedStatic L.statics hcS0 hiss (a (.isRef (.static Bundle.tN "UNASSIGNED_STACK" Bundle.steD)) (by simp [Bundle.messageArmAtoms]))
  obtain ⟨sen, hsen⟩ := Cond.staticRefV Y.sentinel L.sentinelStatic L.statics hcS0 hiss (a (.isRef (.static Bundle.tN "SUPPRESSED_SENTINEL" Bundle.listD)) (by simp [Bundle.messageArmAtoms]))
  obtain ⟨ci198, i198, fB, hk198, hg198, ha198, hsB, -, hnB, htB, hffB⟩ := Cond.ownField (t := .object "java/lang/Object") Y.found L.cls (by decide +kernel) (a (.fieldLink Bundle.tN 198 Bundle.tN "backtrace" "Ljava/lang/Object;") (by simp [Bundle.messageArmAtoms])) (a (.lays Bundle.tN Bundle.tN "backtrace" "Ljava/lang/Object;") (by simp [Bundle.messageArmAtoms])) e.platform hpl
  obtain ⟨cellS, hcS', heS, -, hkeep⟩ := X.same.2.2.2.2.2 T.aS cellS0 hcS0
  have hcellS : W.heap[T.aS]? = some cellS := hcS'
  have hout' : ∀ i, (⟨T.aS, i⟩ : Loc) ∉ locs := fun i hmem => by
    have := hlocs _ hmem cellS0 hcS0
    rw [hiss] at this; cases this
  have hknownS : cellS.vm ≠ .unknown := by
    rw [heS]; intro hu
    rw [show cellS0.vm = .unknown from hu] at hiss
    cases hiss
  have hvU : cellS.slots[T.fUnassigned.slot]? = some u0.v := by rw [hkeep _ (hout' _)]; exact hu0
  have hvSen : cellS.slots[T.fSentinel.slot]? = some sen.v := by rw [hkeep _ (hout' _)]; exact hsen
  obtain ⟨iM, hffM⟩ := Y.msg
  obtain ⟨tyC, dC, hdC, hdnC⟩ := Cond.laysAt hfound hk Y.cause (a (.lays cls Bundle.tN "cause" "Ljava/lang/Throwable;") (by simp [Bundle.messageArmAtoms]))
  obtain ⟨tyS, dS, hdS, hdnS⟩ := Cond.laysAt hfound hk Y.stack (a (.lays cls Bundle.tN "stackTrace" Bundle.steD) (by simp [Bundle.messageArmAtoms]))
  obtain ⟨tyP, dP, hdP, hdnP⟩ := Cond.laysAt hfound hk Y.supp (a (.lays cls Bundle.tN "suppressedExceptions" Bundle.listD) (by simp [Bundle.messageArmAtoms]))
  obtain ⟨tyM, dM, hdM, hdnM⟩ := Cond.laysAt hfound hk hffM (a (.lays cls Bundle.tN "detailMessage" "Ljava/lang/String;") (by simp [Bundle.messageArmAtoms]))
  obtain ⟨tyB, dB, hdB, hdnB⟩ := Cond.laysAt hfound hk hffB (a (.lays cls Bundle.tN "backtrace" "Ljava/lang/Object;") (by simp [Bundle.messageArmAtoms]))
  have bC := Cond.laysApart hdB hdC hdnB hdnC (by rw [hnB, Y.causeName]; decide)
  have bS := Cond.laysApart hdB hdS hdnB hdnS (by rw [hnB, Y.stackName]; decide)
  have bP := Cond.laysApart hdB hdP hdnB hdnP (by rw [hnB, Y.suppName]; decide)
  have hbk : ((preparedCellV T.toThrowableT (freshCell P1.m.cls kX) (W.heap.size + 2) u0 sen).withEntry W.cur).slots[fB.slot]? = some .null := by
    have := fresh_default (c := P1.m.cls) tyB
    rw [htB] at this
    simpa [preparedCellV, Cell.setSlot, Cell.withEntry, Array.getElem?_setIfInBounds, bC, bS, bP, bC.symm, bS.symm, bP.symm, defaultValue] using this
  have tkC := Takes.of_laid (v := .ref (W.heap.size + 2)) hk hord tyC (by rw [Y.causeType]; rfl)
  have tkS := Takes.of_laid (v := u0.v) hk hord tyS (by rw [Y.stackType]; exact fits_refV_array _ u0)
  have tkP := Takes.of_laid (v := sen.v) hk hord tyP (by rw [Y.suppType]; exact fits_refV_object _ sen)
  have tkM := Takes.of_laid (v := .ref (W.heap.size + 1)) hk hord tyM (by rw [Y.msgType]; rfl)
  have hskip : SkipFacts T e.platform s (fun u => u) u0 ((preparedCellV T.toThrowableT (freshCell P1.m.cls kX) (W.heap.size + 2) u0 sen).withEntry W.cur) := ⟨{ ci198 := ci198, i198 := i198, fBack := fB }, ⟨hk198, hg198, ha198, hsB⟩, hbk, fun _ _ => rfl⟩
  have h0 : At W g.method c below := by rw [hg]; exact X.here
  obtain ⟨hbeyond, hfreeW⟩ := X.vmMayThrow hsize (.throwNew cls (some text) none) (fun f hf => by cases hf) rfl hRlocals
  have hfr' : W.frames.length + Ps.length + 4 < (e.platform.stackLimits W.me).1 := by have := X.framesAbove hRframes; omega
  have hwd' : (stackUse (.java g :: W.frames.tail)).2 + 13 * Ps.length + 55 ≤ (e.platform.stackLimits W.me).2 := by have := X.stackAbove hsize (K := 13 * Ps.length + 55) (by omega); omega
  have hslots : W.slotsUsed + (stringBytes (stringToUtf16 text)).size + Zs.kS.instanceTypes.size + kX.instanceTypes.size ≤ e.platform.maxSlots := by
    have := X.slotsAbove hRslots
    rw [hn4, hn6]
    omega
  obtain ⟨vm', hW', st⟩ := Steps.vmThrowsMessageColdByV p (s₀ := s) (S := W) (g := g) h0 hexec T L Z LZ M LM X.warmed (t := W.cur) rfl Zs LZs P1 L1 Ps hL hlink1 hlink hsoe hoom hfound hk hinit hord hctor
    (Launch.admits_hotImplicitExceptions X.admits) hbeyond hfreeW htext hlimit hheap (X.cellsAbove hRcells) hslots (hfitv _) (hfitc _)
    (Nn := fun u => u) heapOnly_id (fun _ _ => rfl) (fun _ => rfl) (fun u x y => setCell_twice _ _ _ _) (fun _ => Nat.le_refl _) (cN := ((preparedCellV T.toThrowableT (freshCell P1.m.cls kX) (W.heap.size + 2) u0 sen).withEntry W.cur))
    hsel0 hcellS hknownS hvU tkS (fun _ hu => hu) (fun _ hu => hu) rfl rfl rfl (by simp [preparedCellV, Cell.setSlot, Cell.withEntry]) hskip (fun _ _ hA hW _ hroom _ hrest => L.nativeOff p htr hA hW hroom hrest) hselF hvSen tkC tkP tkM Y.objLocals rfl hfr' hwd'
  rw [plainBareV_eq T.toThrowableT (W.heap.size + 2) u0 sen (.ref (W.heap.size + 1)) W.cur rfl rfl] at st
  obtain ⟨-, -, w3, w4, -, -, -⟩ := withThrown_facts e.platform W Zs text P1.m.cls kX
  have X3 := ((X.pushed (bytesOf Zs.cB (stringToUtf16 text))).pushed (stringAt Zs.cS Zs.kS Zs.fv Zs.fc (stringToUtf16 text) W.heap.size)).pushed (freshCell P1.m.cls kX)
  rw [← withString_eq] at X3
  have X4 := X3.noted hW'
  have ha : (W.heap.size + 2) < ((withThrown W Zs text P1.m.cls kX).setVm vm').heap.size := by show _ < (withThrown W Zs text P1.m.cls kX).heap.size; rw [w3]; omega
  have hcell : ((withThrown W Zs text P1.m.cls kX).setVm vm').heap[(W.heap.size + 2)]? = some (freshCell P1.m.cls kX) := w4
  have X5 := ((((X4.stored hcell T.fCause.slot (.ref (W.heap.size + 2))).storedAgain ha T.fStack.slot u0.v).storedAgain ha T.fSupp.slot sen.v).storedAgain ha T.fStack.slot u0.v).storedAgain ha T.fMsg.slot (.ref (W.heap.size + 1))
  obtain ⟨g₁, hfrM⟩ := X5.frames_eq
  have hU : ((((withThrown W Zs text P1.m.cls kX).setVm vm').setCell (W.heap.size + 2) (plainBareV T.toThrowableT (freshCell P1.m.cls kX) (W.heap.size + 2) u0 sen (.ref (W.heap.size + 1)))).setTop g).pushFrame (.throwing (W.heap.size + 2)) = (((withThrown W Zs text P1.m.cls kX).setVm vm').setCell (W.heap.size + 2) (plainBareV T.toThrowableT (freshCell P1.m.cls kX) (W.heap.size + 2) u0 sen (.ref (W.heap.size + 1)))).setFrames (.throwing (W.heap.size + 2) :: .java g :: below) := by
    rw [State.pushFrame, State.frames_setTop _ hfrM, State.setTop_of_frames _ hfrM, State.setFrames_setFrames]
  have b1 : (bytesOf Zs.cB (stringToUtf16 text)).slots.size = (stringBytes (stringToUtf16 text)).size := by
    rw [(Cell.writeAll_facts _ _).2.2]; simp [bytes0]
  have b2 : (stringAt Zs.cS Zs.kS Zs.fv Zs.fc (stringToUtf16 text) W.heap.size).slots.size = 4 := by simp [string0, Cell.setSlot, hn4]
  have b3 : (freshCell P1.m.cls kX).slots.size = 6 := by simp [hn6]
  rw [b1, b2, b3] at X5
  have e9 : slots + (stringBytes (stringToUtf16 text)).size + 4 + 6 = slots + ((stringBytes (stringToUtf16 text)).size + 4 + 6) := by omega
  rw [e9] at X5
  simp only [List.append_assoc, List.cons_append, List.nil_append] at X5
  refine ⟨((withThrown W Zs text P1.m.cls kX).setVm vm').setCell (W.heap.size + 2) (plainBareV T.toThrowableT (freshCell P1.m.cls kX) (W.heap.size + 2) u0 sen (.ref (W.heap.size + 1))), W.heap.size + 2, _, fun target ht => st _ (by rw [X.tail, ← hU]; exact ht),
    X5.forget (fun y hy => ?_), heapAt_setCell_self _ ha, hfound, rfl⟩
  simp only [List.mem_cons, List.not_mem_nil, or_false] at hy
  have hge : s.heap.size ≤ W.heap.size := X.same.2.1
  rcases hy with rfl | rfl | rfl | rfl | rfl <;> exact Nat.le_trans hge (Nat.le_add_right _ 2)
set_option maxHeartbeats 1000000 in
/-- the machine throws NullPointerException, no traces kept: from its note over the frame g to 'throwing' over the same frame (follows the proof of Stand.vmThrowsNpe, Shelf42/KT2.lean; throwsNpeColdBareVAt, Shelf42/NT91.lean, called) -/
theorem vx_npeAt {p : Program} {l : Launch} {e : Env} {R : Room} {s : State} {m₀ : MethodId} {args : Array Value} {below : List Frame} {meth : Method} {c : Code} {W : State} {locs : List Loc} {cells slots : Nat}
    (X : Stand p l e R s m₀ args below meth c W locs cells slots) (hexec : p.tables.exec = Jvm.exec) (htr : e.platform.stackTraces = false) {n : Nat}
    (h : ∀ a ∈ Bundle.npeArmAtoms n, a.before args s = true)
    (hlocs : ∀ x ∈ locs, ∀ cell, s.heap[x.base]? = some cell → cell.vm.isStatics = false)
    {g : JFrame} (hg : g.method = m₀) (hsize : g.locals.size = c.maxLocals)
    (hRframes : 7 < R.frames) (hRlocals : 2 * g.monitorRoom + (g.stack.map fun v => v.category).sum + 10240 ≤ R.locals)
    (hRcells : cells + 1 ≤ R.cells) (hRslots : slots + n ≤ R.slots) (hlocks : meth.locks = false) :
    ∃ (S : State) (q : Addr) (ce : Cell), (∀ target, Steps p.tables e below ((S.setTop g).pushFrame (.throwing q)) target → Steps p.tables e below ((W.setTop g).pushFrame (.throwNew "java/lang/NullPointerException" none none)) target) ∧
      Stand p l e R s m₀ args below meth c S locs (cells + 1) (slots + n) ∧ S.heap[q]? = some ce ∧ s.vm.findClass "java/lang/NullPointerException" = some ce.cls ∧ ce.vm = .none := by
  have howns : e.platform.frameOwnsMonitors = true := by rw [X.admits.platform]
  have hfin : e.platform.finalization = false := by rw [X.admits.platform]
  have hpl : e.platform.magicAccessors = ({} : Platform).magicAccessors := by rw [X.admits.platform]
  have hpl2 : e.platform.arrayCloneIsPublic = true := by rw [X.admits.platform]
  have a' : ∀ x, x ∈ Bundle.npeArmAtoms n → x.holds args s none s [] = true := fun x hx => h x hx
  obtain ⟨T, Z, L, LZ, Y⟩ := ThrowableC.of_atoms (args := args) howns hfin hpl (fun x hx => h x (by simp [Bundle.npeArmAtoms, hx]))
  obtain ⟨N, LN, hcN, hnNF, hordN, hffS⟩ := NpeC.of_atoms (args := args) hpl hpl2 L Y (fun x hx => h x (by simp [Bundle.npeArmAtoms, hx]))
  obtain ⟨P1, L1, hP1m, hP1s⟩ := PassC.of_atoms (args := args) (s := s) hpl (X := Bundle.nN) (Y := Bundle.rN) (by decide) (by decide) LibCode.NullPointerException.Init0.at_0 LibCode.NullPointerException.Init0.at_1 LibCode.NullPointerException.Init0.at_4 (fun x hx => h x (by simp [Bundle.npeArmAtoms, hx]))
  obtain ⟨PR, LR, hPRm, hPRs⟩ := PassC.of_atoms (args := args) (s := s) hpl (X := Bundle.rN) (Y := Bundle.eN) (by decide) (by decide) LibCode.RuntimeException.Init0.at_0 LibCode.RuntimeException.Init0.at_1 LibCode.RuntimeException.Init0.at_4 (fun x hx => h x (by simp [Bundle.npeArmAtoms, hx]))
  obtain ⟨PE, LEx, hPEm, hPEs⟩ := PassC.of_atoms (args := args) (s := s) hpl (X := Bundle.eN) (Y := Bundle.tN) (by decide) (by decide) LibCode.Exception.Init0.at_0 LibCode.Exception.Init0.at_1 LibCode.Exception.Init0.at_4 (fun x hx => h x (by simp [Bundle.npeArmAtoms, hx]))
  have hfound : s.vm.findClass Bundle.nN = some P1.m.cls := findClass_of_methodNamed hP1m
  have ecls : N.cN = P1.m.cls := Option.some.inj (hcN.symm.trans hfound)
  have hk : s.vm.classes[P1.m.cls]? = some N.kN := by rw [← ecls]; exact LN.cls
  have hinit := Cond.initialized_spec hfound hk (a' (.initialized Bundle.nN) (by simp [Bundle.npeArmAtoms]))
  have hctor : N.kN.findMethod "<init>" "()V" = some P1.m.idx := findMethod_of_methodNamed hP1m hk
  obtain ⟨c1, k1, hc1, hk1, -, -, -, hn⟩ := Cond.instantiable_spec (a' (.instantiable Bundle.nN n) (by simp [Bundle.npeArmAtoms]))
  cases Option.some.inj (hc1.symm.trans hfound)
  cases Option.some.inj (hk1.symm.trans hk)
  have hfsz : (freshCell P1.m.cls N.kN).slots.size = n := by simp [hn]
  have hlink1 : P1.sup = PR.m := Option.some.inj (hP1s.symm.trans hPRm)
  have hlinkR : PR.sup = PE.m := Option.some.inj (hPRs.symm.trans hPEm)
  have hlinkE : PE.sup = Z.m T.toThrowableT := Option.some.inj (hPEs.symm.trans Y.init0)
  have hLs : ∀ P, P ∈ [PR, PE] → P.Links0 e.platform s := fun P hP => by
    simp only [List.mem_cons, List.not_mem_nil, or_false] at hP
    rcases hP with rfl | rfl
    · exact LR
    · exact LEx
  have hsel0 : selectMethod e.platform s.vm P1.m.cls T.fill0 = .method T.fill0 := by
    obtain ⟨c2, r2, m2, q1, q2, q3, q4, -⟩ := Cond.selects_spec (a' (.selects Bundle.nN Bundle.tFill0 Bundle.tFill0) (by simp [Bundle.npeArmAtoms]))
    cases Option.some.inj (q1.symm.trans hfound)
    cases Option.some.inj (q2.symm.trans (State.methodFound?_of_named Y.fill0 (by decide)))
    cases Option.some.inj (q3.symm.trans Y.fill0)
    rw [Launch.admits_selectMethod X.admits]; exact q4
  have hselF : selectMethod e.platform s.vm P1.m.cls T.fill = .method N.fill := by
    obtain ⟨c2, r2, m2, q1, q2, q3, q4, -⟩ := Cond.selects_spec (a' (.selects Bundle.nN Bundle.tFill Bundle.nFill) (by simp [Bundle.npeArmAtoms]))
    cases Option.some.inj (q1.symm.trans hfound)
    cases Option.some.inj (q2.symm.trans (State.methodFound?_of_named Y.fill (by decide)))
    cases Option.some.inj (q3.symm.trans hnNF)
    rw [Launch.admits_selectMethod X.admits]; exact q4
  obtain ⟨cellS0, hcS0, hiss⟩ := Y.statics
  obtain ⟨u0, hu0⟩ := Cond.staticRefV Y.unassigned L.unassignedStatic L.statics hcS0 hiss (a' (.isRef (.static Bundle.tN "UNASSIGNED_STACK" Bundle.steD)) (by simp [Bundle.npeArmAtoms]))
  obtain ⟨sen, hsen⟩ := Cond.staticRefV Y.sentinel L.sentinelStatic L.statics hcS0 hiss (a' (.isRef (.static Bundle.tN "SUPPRESSED_SENTINEL" Bundle.listD)) (by simp [Bundle.npeArmAtoms]))
  obtain ⟨ci198, i198, fB, hk198, hg198, ha198, hsB, -, hnB, htB, hffB⟩ := Cond.ownField (t := .object "java/lang/Object") Y.found L.cls (by decide +kernel) (a' (.fieldLink Bundle.tN 198 Bundle.tN "backtrace" Bundle.objD) (by simp [Bundle.npeArmAtoms])) (a' (.lays Bundle.tN Bundle.tN "backtrace" Bundle.objD) (by simp [Bundle.npeArmAtoms])) e.platform hpl
  obtain ⟨cellS, hcS', heS, -, hkeep⟩ := X.same.2.2.2.2.2 T.aS cellS0 hcS0
  have hcellS : W.heap[T.aS]? = some cellS := hcS'
  have hout' : ∀ i, (⟨T.aS, i⟩ : Loc) ∉ locs := fun i hmem => by
    have := hlocs _ hmem cellS0 hcS0
    rw [hiss] at this; cases this
  have hknownS : cellS.vm ≠ .unknown := by
    rw [heS]; intro hu
    rw [show cellS0.vm = .unknown from hu] at hiss
    cases hiss
  have hvU : cellS.slots[T.fUnassigned.slot]? = some u0.v := by rw [hkeep _ (hout' _)]; exact hu0
  have hvSen : cellS.slots[T.fSentinel.slot]? = some sen.v := by rw [hkeep _ (hout' _)]; exact hsen
  obtain ⟨tyC, dC, hdC, hdnC⟩ := Cond.laysAt hfound hk Y.cause (a' (.lays Bundle.nN Bundle.tN "cause" "Ljava/lang/Throwable;") (by simp [Bundle.npeArmAtoms]))
  obtain ⟨tyS, dS, hdS, hdnS⟩ := Cond.laysAt hfound hk Y.stack (a' (.lays Bundle.nN Bundle.tN "stackTrace" Bundle.steD) (by simp [Bundle.npeArmAtoms]))
  obtain ⟨tyP, dP, hdP, hdnP⟩ := Cond.laysAt hfound hk Y.supp (a' (.lays Bundle.nN Bundle.tN "suppressedExceptions" Bundle.listD) (by simp [Bundle.npeArmAtoms]))
  obtain ⟨tyX, dX, hdX, hdnX⟩ := Cond.laysAt hfound hk hffS (a' (.lays Bundle.nN Bundle.nN "extendedMessageState" "I") (by simp [Bundle.npeArmAtoms, Bundle.npeAtoms]))
  obtain ⟨hnX, htX⟩ := State.fieldFound?_type hffS (t := .int) (by decide +kernel)
  have xC := Cond.laysApart hdC hdX hdnC hdnX (by rw [hnX, Y.causeName]; decide)
  have xS := Cond.laysApart hdS hdX hdnS hdnX (by rw [hnX, Y.stackName]; decide)
  have xP := Cond.laysApart hdP hdX hdnP hdnX (by rw [hnX, Y.suppName]; decide)
  have hv0 : (freshCell P1.m.cls N.kN).slots[N.fState.slot]? = some (.int 0) := by
    have := fresh_default (c := P1.m.cls) tyX
    rw [htX] at this; exact this
  obtain ⟨tyB, dB, hdB, hdnB⟩ := Cond.laysAt hfound hk hffB (a' (.lays Bundle.nN Bundle.tN "backtrace" Bundle.objD) (by simp [Bundle.npeArmAtoms]))
  have bC := Cond.laysApart hdB hdC hdnB hdnC (by rw [hnB, Y.causeName]; decide)
  have bS := Cond.laysApart hdB hdS hdnB hdnS (by rw [hnB, Y.stackName]; decide)
  have bP := Cond.laysApart hdB hdP hdnB hdnP (by rw [hnB, Y.suppName]; decide)
  have bX := Cond.laysApart hdB hdX hdnB hdnX (by rw [hnB, hnX]; decide)
  have hbk : ((npeCell N.toNpeT (preparedCellV T.toThrowableT (freshCell P1.m.cls N.kN) W.heap.size u0 sen) W.cur).withEntry W.cur).slots[fB.slot]? = some .null := by
    have := fresh_default (c := P1.m.cls) tyB
    rw [htB] at this
    simpa [npeCell, preparedCellV, Cell.setSlot, Cell.withEntry, Array.getElem?_setIfInBounds, bC, bS, bP, bX, bC.symm, bS.symm, bP.symm, bX.symm, defaultValue] using this
  have tkC := Takes.of_laid (v := .ref W.heap.size) hk hordN tyC (by rw [Y.causeType]; rfl)
  have tkS := Takes.of_laid (v := u0.v) hk hordN tyS (by rw [Y.stackType]; exact fits_refV_array _ u0)
  have tkP := Takes.of_laid (v := sen.v) hk hordN tyP (by rw [Y.suppType]; exact fits_refV_object _ sen)
  have tkX := Takes.of_laid (v := .int 1) hk hordN tyX (by rw [htX]; rfl)
  have hskip : SkipFacts T e.platform s (fun u => u) u0 ((npeCell N.toNpeT (preparedCellV T.toThrowableT (freshCell P1.m.cls N.kN) W.heap.size u0 sen) W.cur).withEntry W.cur) := ⟨{ ci198 := ci198, i198 := i198, fBack := fB }, ⟨hk198, hg198, ha198, hsB⟩, hbk, fun _ _ => rfl⟩
  obtain ⟨vm', X3, st, -⟩ := X.throwsNpeColdBareVAt hexec hg hsize T L Z LZ N LN P1 L1 [PR, PE] hLs hlink1 ⟨hlinkR, hlinkE, trivial⟩ hfound hk hinit hordN hctor hsel0 hselF hcellS hknownS hvU hvSen
    hv0 xC xS xP tkC tkS tkP tkX Y.objLocals hskip (fun _ _ hA hW _ hroom _ hrest => L.nativeOff p htr hA hW hroom hrest) (by simpa using hRframes) hRlocals (by simp) hRcells (by rw [hn]; exact hRslots)
  have hlt : W.heap.size < ((W.pushCell (freshCell P1.m.cls N.kN)).setVm vm').heap.size := by
    show W.heap.size < (W.pushCell (freshCell P1.m.cls N.kN)).heap.size
    rw [State.heap_size_pushCell]; omega
  rw [hfsz] at X3
  obtain ⟨g₁, hfrM⟩ := X3.frames_eq
  have hU : ((((W.pushCell (freshCell P1.m.cls N.kN)).setVm vm').setCell W.heap.size (npeBareV T.toThrowableT N.toNpeT (freshCell P1.m.cls N.kN) W.heap.size u0 sen)).setTop g).pushFrame (.throwing W.heap.size) = (((W.pushCell (freshCell P1.m.cls N.kN)).setVm vm').setCell W.heap.size (npeBareV T.toThrowableT N.toNpeT (freshCell P1.m.cls N.kN) W.heap.size u0 sen)).setFrames (.throwing W.heap.size :: .java g :: below) := by
    rw [State.pushFrame, State.frames_setTop _ hfrM, State.setTop_of_frames _ hfrM, State.setFrames_setFrames]
  refine ⟨_, W.heap.size, _, fun target ht => st.trans (by rw [← hU]; exact ht), X3.forget (fun y hy => ?_), heapAt_setCell_self _ hlt, hfound, rfl⟩
  simp only [List.mem_cons, List.not_mem_nil, or_false] at hy
  have hge : s.heap.size ≤ W.heap.size := X.same.2.1
  rcases hy with rfl | rfl | rfl | rfl | rfl <;> exact hge
/-- the words of a machine's NullPointerException, but the four that speak of the heap -/
def vx_atN (n : Nat) : List Cond := (Bundle.npeArmAtoms n).filter vx_no
/-- the words of a machine's throw with a message, but the four that speak of the heap -/
def vx_atM (X : String) (names : List String) : List Cond := (Bundle.messageArmAtoms X names).filter vx_no
section
variable {p : Program} {l : Launch} {e : Env} {R : Room} {s : State} {m : MethodId} {args : Array Value} {below : List Frame} {meth : Method} {c : Code} {H : Heap} {locs : List Loc} {cells slots : Nat}
/-- a frame seen from a rebased start, seen from the first start again -/
theorem vx_back9 {T S : State} {R' : Room} {k n : Nat} (X : Stand p l e R s m args below meth c T locs cells slots) (Y : Stand p l e R' ((T.setVm s.vm).setFrames (.invoking m args :: below)) m args below meth c T [] 0 0) (Z : Stand p l e R' ((T.setVm s.vm).setFrames (.invoking m args :: below)) m args below meth c S [] k n) :
    Stand p l e R s m args below meth c S locs (cells + k) (slots + n) := by
  have hW0 : s.WarmedH ((T.setVm s.vm).setFrames (.invoking m args :: below)).vm := State.WarmedH.refl s
  refine { admits := X.admits, cas := X.cas, clock := X.clock, frames := X.frames, room := X.room, hears := X.hears, method := X.method, code := X.code, here := Z.here, tail := Z.tail, warmed := State.WarmedH.trans hW0 Z.warmed, limits := Z.limits.trans (Y.limits.symm.trans X.limits), bytes := Z.bytes.trans (Y.bytes.symm.trans X.bytes), same := ?_ }
  obtain ⟨e1, e2⟩ := Z.same
  rw [State.setFrames_setFrames] at e1
  have h2 : (T.setVm s.vm).sameButNew (S.setVm s.vm) [] k n := ⟨e1, e2⟩
  have h3 := X.same.trans h2
  rw [List.append_nil] at h3
  exact h3
/-- from the machine's note that E is thrown here with this text -/
def vx_Note (p : Program) (l : Launch) (e : Env) (R : Room) (s : State) (m : MethodId) (args : Array Value) (below : List Frame) (meth : Method) (c : Code) (H : Heap) (locs : List Loc) (cells slots : Nat) (Q : State → Prop) (g : JFrame) (E text : String) : Prop :=
  ∀ T : State, T.heap = H → Stand p l e R s m args below meth c T locs cells slots → ∃ t, Steps p.tables e below ((T.setTop g).pushFrame (.throwNew E (some text) none)) t ∧ Q t
theorem vx_vm {pc : Nat} {ls : Array Slot} {rest : List Value} {Q : State → Prop} (hexec : p.tables.exec = Jvm.exec) (hl : l.stackTraces = false) {cls text : String} {names : List String} {nb : Nat} {A : Nat → Prop}
    (hcls : Bundle.fit cls = true) (hnames : ∀ n ∈ names, Bundle.fit n = true) (hsoe : (cls == "java/lang/StackOverflowError") = false) (hoom : (cls == "java/lang/OutOfMemoryError") = false)
    (hat : ∀ w ∈ vx_atM cls names, w.before args s = true) (hgood : ∀ w ∈ vx_atM cls names, vx_ot w = true)
    (hU : vx_Zq Bundle.tN "UNASSIGNED_STACK" Bundle.steD A s s.heap) (hN : vx_Zq Bundle.tN "SUPPRESSED_SENTINEL" Bundle.listD A s s.heap) (hS : va_S A s.heap H locs) (hsize : ls.size = c.maxLocals)
    (htext : (text == notModelled) = false) (hnb : (stringBytes (stringToUtf16 text)).size ≤ nb) (hnb1 : nb ≤ 1000)
    (hRframes : names.length + 4 < R.frames) (hRlocals : (rest.map fun v => v.category).sum + 10240 ≤ R.locals) (hshort : 13 * names.length + 55 ≤ 10240) (hRcells : cells + 3 ≤ R.cells) (hRslots : slots + (nb + 10) ≤ R.slots) (hlocks : meth.locks = false)
    (k : ∀ (H1 : Heap) (q9 : Addr) (ce : Cell), H.size ≤ H1.size → (∀ q : Nat, q < H.size → H1[q]? = H[q]?) → va_S A s.heap H1 locs → H1[q9]? = some ce → ce.vm = .none → s.vm.findClass cls = some ce.cls → vx_W p l e R s m args below meth c H1 locs (cells + 3) (slots + (nb + 10)) Q (F0 m pc ls rest) q9) :
    vx_Note p l e R s m args below meth c H locs cells slots Q (F0 m pc ls rest) cls text := by
  intro T hT X
  have htr : e.platform.stackTraces = false := (show e.platform.stackTraces = l.stackTraces by rw [X.admits.platform]).trans hl
  have Y := vx_rebase X (R' := { frames := R.frames, locals := R.locals, cells := 3, slots := nb + 10 }) (Nat.le_refl _) (Nat.le_refl _) hRcells hRslots
  have hhp : ((T.setVm s.vm).setFrames (.invoking m args :: below)).heap = H := hT
  have hW0 : s.WarmedH ((T.setVm s.vm).setFrames (.invoking m args :: below)).vm := State.WarmedH.refl s
  have hat' : ∀ w ∈ vx_atM cls names, w.before args ((T.setVm s.vm).setFrames (.invoking m args :: below)) = true := fun w hw => vx_ot_at hW0 rfl (hgood w hw) (hat w hw)
  have hU' : vx_Zq Bundle.tN "UNASSIGNED_STACK" Bundle.steD A ((T.setVm s.vm).setFrames (.invoking m args :: below)) ((T.setVm s.vm).setFrames (.invoking m args :: below)).heap := by rw [hhp]; exact vx_Zq.moved hW0.alike (hU.kept hS.2.1)
  have hN' : vx_Zq Bundle.tN "SUPPRESSED_SENTINEL" Bundle.listD A ((T.setVm s.vm).setFrames (.invoking m args :: below)) ((T.setVm s.vm).setFrames (.invoking m args :: below)).heap := by rw [hhp]; exact vx_Zq.moved hW0.alike (hN.kept hS.2.1)
  obtain ⟨S, q, ce, st, Z, hce, hcl', hv⟩ := vx_vmAt Y hexec htr (cls := cls) (names := names) (text := text) hcls hnames hsoe hoom (vx_own hat' (vx_isRefq hU'.1) (vx_isRefq hN'.1) hU'.2.word hN'.2.word) (fun x hx => nomatch hx) htext
    (by rw [Launch.admits_arrayLengthLimit X.admits]; omega) (by rw [Launch.admits_maxHeapBytes X.admits]; simp only [componentBytes]; omega)
    (g := F0 m pc ls rest) rfl hsize hRframes (by show 2 * 0 + (rest.map fun v => v.category).sum + 10240 ≤ R.locals; omega) hshort (by show 0 + 3 ≤ 3; omega) (by show 0 + (_ + 4 + 6) ≤ nb + 10; omega) hlocks
  obtain ⟨f1, f2⟩ := vx_frame Z.same
  have f1' : H.size ≤ S.heap.size := by rw [← hT]; exact f1
  have f2' : ∀ q : Nat, q < H.size → S.heap[q]? = H[q]? := fun q hq => by
    rw [← hT]
    exact f2 q (by rw [← hT] at hq; exact hq) (fun z hz => nomatch hz)
  have X5 := vx_back9 X Y Z
  have X6 : Stand p l e R s m args below meth c S locs (cells + 3) (slots + (nb + 10)) := { X5 with same := X5.same.mono (by omega) (by omega) }
  obtain ⟨t, a1, b1⟩ := k S.heap q ce f1' f2' ⟨Nat.le_trans hS.1 f1', fun q h1 h2 => (f2' q (Nat.lt_of_lt_of_le h1 hS.1)).trans (hS.2.1 q h1 h2), hS.2.2⟩ hce hv hcl' S rfl X6
  exact ⟨t, st t a1, b1⟩
/-- from the machine's note that NullPointerException is thrown here -/
def vx_NoteN (p : Program) (l : Launch) (e : Env) (R : Room) (s : State) (m : MethodId) (args : Array Value) (below : List Frame) (meth : Method) (c : Code) (H : Heap) (locs : List Loc) (cells slots : Nat) (Q : State → Prop) (g : JFrame) : Prop :=
  ∀ T : State, T.heap = H → Stand p l e R s m args below meth c T locs cells slots → ∃ t, Steps p.tables e below ((T.setTop g).pushFrame (.throwNew "java/lang/NullPointerException" none none)) t ∧ Q t
theorem vx_npe {pc : Nat} {ls : Array Slot} {rest : List Value} {Q : State → Prop} (hexec : p.tables.exec = Jvm.exec) (hl : l.stackTraces = false) {nb : Nat} {A : Nat → Prop}
    (hat : ∀ w ∈ vx_atN nb, w.before args s = true) (hgood : ∀ w ∈ vx_atN nb, vx_ot w = true)
    (hU : vx_Zq Bundle.tN "UNASSIGNED_STACK" Bundle.steD A s s.heap) (hN : vx_Zq Bundle.tN "SUPPRESSED_SENTINEL" Bundle.listD A s s.heap) (hS : va_S A s.heap H locs) (hsize : ls.size = c.maxLocals)
    (hRframes : 7 < R.frames) (hRlocals : (rest.map fun v => v.category).sum + 10240 ≤ R.locals) (hRcells : cells + 1 ≤ R.cells) (hRslots : slots + nb ≤ R.slots) (hlocks : meth.locks = false)
    (k : ∀ (H1 : Heap) (q9 : Addr) (ce : Cell), H.size ≤ H1.size → (∀ q : Nat, q < H.size → H1[q]? = H[q]?) → va_S A s.heap H1 locs → H1[q9]? = some ce → ce.vm = .none → s.vm.findClass "java/lang/NullPointerException" = some ce.cls → vx_W p l e R s m args below meth c H1 locs (cells + 1) (slots + nb) Q (F0 m pc ls rest) q9) :
    vx_NoteN p l e R s m args below meth c H locs cells slots Q (F0 m pc ls rest) := by
  intro T hT X
  have htr : e.platform.stackTraces = false := (show e.platform.stackTraces = l.stackTraces by rw [X.admits.platform]).trans hl
  have Y := vx_rebase X (R' := { frames := R.frames, locals := R.locals, cells := 1, slots := nb }) (Nat.le_refl _) (Nat.le_refl _) hRcells hRslots
  have hhp : ((T.setVm s.vm).setFrames (.invoking m args :: below)).heap = H := hT
  have hW0 : s.WarmedH ((T.setVm s.vm).setFrames (.invoking m args :: below)).vm := State.WarmedH.refl s
  have hat' : ∀ w ∈ vx_atN nb, w.before args ((T.setVm s.vm).setFrames (.invoking m args :: below)) = true := fun w hw => vx_ot_at hW0 rfl (hgood w hw) (hat w hw)
  have hU' : vx_Zq Bundle.tN "UNASSIGNED_STACK" Bundle.steD A ((T.setVm s.vm).setFrames (.invoking m args :: below)) ((T.setVm s.vm).setFrames (.invoking m args :: below)).heap := by rw [hhp]; exact vx_Zq.moved hW0.alike (hU.kept hS.2.1)
  have hN' : vx_Zq Bundle.tN "SUPPRESSED_SENTINEL" Bundle.listD A ((T.setVm s.vm).setFrames (.invoking m args :: below)) ((T.setVm s.vm).setFrames (.invoking m args :: below)).heap := by rw [hhp]; exact vx_Zq.moved hW0.alike (hN.kept hS.2.1)
  obtain ⟨S, q, ce, st, Z, hce, hcl', hv⟩ := vx_npeAt Y hexec htr (n := nb) (vx_own hat' (vx_isRefq hU'.1) (vx_isRefq hN'.1) hU'.2.word hN'.2.word) (fun x hx => nomatch hx)
    (g := F0 m pc ls rest) rfl hsize hRframes (by show 2 * 0 + (rest.map fun v => v.category).sum + 10240 ≤ R.locals; omega) (by show 0 + 1 ≤ 1; omega) (by show 0 + nb ≤ nb; omega) hlocks
  obtain ⟨f1, f2⟩ := vx_frame Z.same
  have f1' : H.size ≤ S.heap.size := by rw [← hT]; exact f1
  have f2' : ∀ q : Nat, q < H.size → S.heap[q]? = H[q]? := fun q hq => by
    rw [← hT]
    exact f2 q (by rw [← hT] at hq; exact hq) (fun z hz => nomatch hz)
  have X5 := vx_back9 X Y Z
  have X6 : Stand p l e R s m args below meth c S locs (cells + 1) (slots + nb) := { X5 with same := X5.same.mono (by omega) (by omega) }
  obtain ⟨t, a1, b1⟩ := k S.heap q ce f1' f2' ⟨Nat.le_trans hS.1 f1', fun q h1 h2 => (f2' q (Nat.lt_of_lt_of_le h1 hS.1)).trans (hS.2.1 q h1 h2), hS.2.2⟩ hce hv hcl' S rfl X6
  exact ⟨t, st t a1, b1⟩
variable {Q : State → Prop} {cc : ByteArray} {pc : Nat} {ls : Array Slot} {rest : List Value}
theorem vx_idivZ (hexec : p.tables.exec = Jvm.exec) (hb : c.code = cc) {a b : Int32} (h0 : b = 0) (d : decode cc pc = .ok (.idiv, 1)) (k : vx_Note p l e R s m args below meth c H locs cells slots Q (F0 m pc ls rest) "java/lang/ArithmeticException" "/ by zero") :
    W p l e R s m args below meth c H locs cells slots Q (F0 m pc ls (.int b :: .int a :: rest)) := by
  intro T hT X
  obtain ⟨t, st, q⟩ := k T hT X
  exact ⟨t, X.idivZero hexec (g := F0 m pc ls (.int b :: .int a :: rest)) rfl (a := a) (rest := rest) (by rw [h0]) (by rw [hb]; exact d) t st, q⟩
theorem vx_iremZ (hexec : p.tables.exec = Jvm.exec) (hb : c.code = cc) {a b : Int32} (h0 : b = 0) (d : decode cc pc = .ok (.irem, 1)) (k : vx_Note p l e R s m args below meth c H locs cells slots Q (F0 m pc ls rest) "java/lang/ArithmeticException" "/ by zero") :
    W p l e R s m args below meth c H locs cells slots Q (F0 m pc ls (.int b :: .int a :: rest)) := by
  intro T hT X
  obtain ⟨t, st, q⟩ := k T hT X
  exact ⟨t, X.iremZero hexec (g := F0 m pc ls (.int b :: .int a :: rest)) rfl (a := a) (rest := rest) (by rw [h0]) (by rw [hb]; exact d) t st, q⟩
theorem vx_ldivZ (hexec : p.tables.exec = Jvm.exec) (hb : c.code = cc) {a b : Int64} (h0 : b = 0) (d : decode cc pc = .ok (.ldiv, 1)) (k : vx_Note p l e R s m args below meth c H locs cells slots Q (F0 m pc ls rest) "java/lang/ArithmeticException" "/ by zero") :
    W p l e R s m args below meth c H locs cells slots Q (F0 m pc ls (.long b :: .long a :: rest)) := by
  intro T hT X
  obtain ⟨t, st, q⟩ := k T hT X
  exact ⟨t, X.ldivZero hexec (g := F0 m pc ls (.long b :: .long a :: rest)) rfl (a := a) (rest := rest) (by rw [h0]) (by rw [hb]; exact d) t st, q⟩
theorem vx_lremZ (hexec : p.tables.exec = Jvm.exec) (hb : c.code = cc) {a b : Int64} (h0 : b = 0) (d : decode cc pc = .ok (.lrem, 1)) (k : vx_Note p l e R s m args below meth c H locs cells slots Q (F0 m pc ls rest) "java/lang/ArithmeticException" "/ by zero") :
    W p l e R s m args below meth c H locs cells slots Q (F0 m pc ls (.long b :: .long a :: rest)) := by
  intro T hT X
  obtain ⟨t, st, q⟩ := k T hT X
  exact ⟨t, X.lremZero hexec (g := F0 m pc ls (.long b :: .long a :: rest)) rfl (a := a) (rest := rest) (by rw [h0]) (by rw [hb]; exact d) t st, q⟩
theorem vx_ialdZ {D : va_G} {cl : List vw_C} {ws : va_W} {tys : List (ClassId × FieldType)} {a : Nat} (hexec : p.tables.exec = Jvm.exec) (hb : c.code = cc) (hK : va_K D cl tys s) (hP : va_P D cl ws H) (q0 t0 : Nat) {cA : ClassId} {n : Nat} {f : Nat → Int32} (ha : ws[q0]? = some (a, .inl (cA, n, .inl f))) (ht : tys[t0]? = some (cA, .int)) {i : Int32} (hout : ¬ vp_in i n) (hdg : decode cc pc = .ok (.iaload, 1))
    (k : ∀ tx : String, tx = (toString "Index " ++ toString i ++ toString " out of bounds for length " ++ toString n : String) → vx_Note p l e R s m args below meth c H locs cells slots Q (F0 m pc ls rest) "java/lang/ArrayIndexOutOfBoundsException" tx) : W p l e R s m args below meth c H locs cells slots Q (F0 m pc ls (.int i :: .ref a :: rest)) := by
  intro T hT X
  obtain ⟨t, st, q⟩ := k _ rfl T hT X
  refine ⟨t, ?_, q⟩
  have h1 := X.ialoadOut hexec (by rw [hT]; exact hP q0 _ ha) ((hK.2 t0 _ ht).1 n (fun j => .int (f j))) (j := i) (by show (i < 0 ∨ (arrV _ _ _).slots.size ≤ _); rw [arrV_size]; exact Classical.byContradiction hout) (g := F0 m pc ls (.int i :: .ref a :: rest)) rfl (rest := rest) rfl (by rw [hb]; exact hdg) t
  simp only [arrV_size] at h1
  exact h1 st
theorem vx_iastZ {D : va_G} {cl : List vw_C} {ws : va_W} {tys : List (ClassId × FieldType)} {a : Nat} (hexec : p.tables.exec = Jvm.exec) (hb : c.code = cc) (hK : va_K D cl tys s) (hP : va_P D cl ws H) (q0 t0 : Nat) {cA : ClassId} {n : Nat} {f : Nat → Int32} (ha : ws[q0]? = some (a, .inl (cA, n, .inl f))) (ht : tys[t0]? = some (cA, .int)) {i : Int32} {x : Int32} (hout : ¬ vp_in i n) (hdg : decode cc pc = .ok (.iastore, 1))
    (k : ∀ tx : String, tx = (toString "Index " ++ toString i ++ toString " out of bounds for length " ++ toString n : String) → vx_Note p l e R s m args below meth c H locs cells slots Q (F0 m pc ls rest) "java/lang/ArrayIndexOutOfBoundsException" tx) : W p l e R s m args below meth c H locs cells slots Q (F0 m pc ls (.int x :: .int i :: .ref a :: rest)) := by
  intro T hT X
  obtain ⟨t, st, q⟩ := k _ rfl T hT X
  refine ⟨t, ?_, q⟩
  have h1 := X.iastoreOut hexec (by rw [hT]; exact hP q0 _ ha) ((hK.2 t0 _ ht).1 n (fun j => .int (f j))) (j := i) (by show (i < 0 ∨ (arrV _ _ _).slots.size ≤ _); rw [arrV_size]; exact Classical.byContradiction hout) (g := F0 m pc ls (.int x :: .int i :: .ref a :: rest)) rfl (rest := rest) rfl (by rw [hb]; exact hdg) t
  simp only [arrV_size] at h1
  exact h1 st
theorem vx_baldZ {D : va_G} {cl : List vw_C} {ws : va_W} {tys : List (ClassId × FieldType)} {a : Nat} (hexec : p.tables.exec = Jvm.exec) (hb : c.code = cc) (hK : va_K D cl tys s) (hP : va_P D cl ws H) (q0 t0 : Nat) {cA : ClassId} {n : Nat} {f : Nat → Int32} (ha : ws[q0]? = some (a, .inl (cA, n, .inl f))) (ht : tys[t0]? = some (cA, .byte)) {i : Int32} (hout : ¬ vp_in i n) (hdg : decode cc pc = .ok (.baload, 1))
    (k : ∀ tx : String, tx = (toString "Index " ++ toString i ++ toString " out of bounds for length " ++ toString n : String) → vx_Note p l e R s m args below meth c H locs cells slots Q (F0 m pc ls rest) "java/lang/ArrayIndexOutOfBoundsException" tx) : W p l e R s m args below meth c H locs cells slots Q (F0 m pc ls (.int i :: .ref a :: rest)) := by
  intro T hT X
  obtain ⟨t, st, q⟩ := k _ rfl T hT X
  refine ⟨t, ?_, q⟩
  have h1 := X.baloadOut hexec (by rw [hT]; exact hP q0 _ ha) ((hK.2 t0 _ ht).1 n (fun j => .int (f j))) (j := i) (by show (i < 0 ∨ (arrV _ _ _).slots.size ≤ _); rw [arrV_size]; exact Classical.byContradiction hout) (g := F0 m pc ls (.int i :: .ref a :: rest)) rfl (rest := rest) rfl (by rw [hb]; exact hdg) t
  simp only [arrV_size] at h1
  exact h1 st
theorem vx_bastZ {D : va_G} {cl : List vw_C} {ws : va_W} {tys : List (ClassId × FieldType)} {a : Nat} (hexec : p.tables.exec = Jvm.exec) (hb : c.code = cc) (hK : va_K D cl tys s) (hP : va_P D cl ws H) (q0 t0 : Nat) {cA : ClassId} {n : Nat} {f : Nat → Int32} (ha : ws[q0]? = some (a, .inl (cA, n, .inl f))) (ht : tys[t0]? = some (cA, .byte)) {i : Int32} {x : Int32} (hout : ¬ vp_in i n) (hdg : decode cc pc = .ok (.bastore, 1))
    (k : ∀ tx : String, tx = (toString "Index " ++ toString i ++ toString " out of bounds for length " ++ toString n : String) → vx_Note p l e R s m args below meth c H locs cells slots Q (F0 m pc ls rest) "java/lang/ArrayIndexOutOfBoundsException" tx) : W p l e R s m args below meth c H locs cells slots Q (F0 m pc ls (.int x :: .int i :: .ref a :: rest)) := by
  intro T hT X
  obtain ⟨t, st, q⟩ := k _ rfl T hT X
  refine ⟨t, ?_, q⟩
  have h1 := X.bastoreOut hexec (by rw [hT]; exact hP q0 _ ha) ((hK.2 t0 _ ht).1 n (fun j => .int (f j))) (j := i) (by show (i < 0 ∨ (arrV _ _ _).slots.size ≤ _); rw [arrV_size]; exact Classical.byContradiction hout) (g := F0 m pc ls (.int x :: .int i :: .ref a :: rest)) rfl (rest := rest) rfl (by rw [hb]; exact hdg) t
  simp only [arrV_size] at h1
  exact h1 st
theorem vx_zaldZ {D : va_G} {cl : List vw_C} {ws : va_W} {tys : List (ClassId × FieldType)} {a : Nat} (hexec : p.tables.exec = Jvm.exec) (hb : c.code = cc) (hK : va_K D cl tys s) (hP : va_P D cl ws H) (q0 t0 : Nat) {cA : ClassId} {n : Nat} {f : Nat → Int32} (ha : ws[q0]? = some (a, .inl (cA, n, .inl f))) (ht : tys[t0]? = some (cA, .boolean)) {i : Int32} (hout : ¬ vp_in i n) (hdg : decode cc pc = .ok (.baload, 1))
    (k : ∀ tx : String, tx = (toString "Index " ++ toString i ++ toString " out of bounds for length " ++ toString n : String) → vx_Note p l e R s m args below meth c H locs cells slots Q (F0 m pc ls rest) "java/lang/ArrayIndexOutOfBoundsException" tx) : W p l e R s m args below meth c H locs cells slots Q (F0 m pc ls (.int i :: .ref a :: rest)) := by
  intro T hT X
  obtain ⟨t, st, q⟩ := k _ rfl T hT X
  refine ⟨t, ?_, q⟩
  have h1 := X.baloadOut hexec (by rw [hT]; exact hP q0 _ ha) ((hK.2 t0 _ ht).1 n (fun j => .int (f j))) (j := i) (by show (i < 0 ∨ (arrV _ _ _).slots.size ≤ _); rw [arrV_size]; exact Classical.byContradiction hout) (g := F0 m pc ls (.int i :: .ref a :: rest)) rfl (rest := rest) rfl (by rw [hb]; exact hdg) t
  simp only [arrV_size] at h1
  exact h1 st
theorem vx_zastZ {D : va_G} {cl : List vw_C} {ws : va_W} {tys : List (ClassId × FieldType)} {a : Nat} (hexec : p.tables.exec = Jvm.exec) (hb : c.code = cc) (hK : va_K D cl tys s) (hP : va_P D cl ws H) (q0 t0 : Nat) {cA : ClassId} {n : Nat} {f : Nat → Int32} (ha : ws[q0]? = some (a, .inl (cA, n, .inl f))) (ht : tys[t0]? = some (cA, .boolean)) {i : Int32} {x : Int32} (hout : ¬ vp_in i n) (hdg : decode cc pc = .ok (.bastore, 1))
    (k : ∀ tx : String, tx = (toString "Index " ++ toString i ++ toString " out of bounds for length " ++ toString n : String) → vx_Note p l e R s m args below meth c H locs cells slots Q (F0 m pc ls rest) "java/lang/ArrayIndexOutOfBoundsException" tx) : W p l e R s m args below meth c H locs cells slots Q (F0 m pc ls (.int x :: .int i :: .ref a :: rest)) := by
  intro T hT X
  obtain ⟨t, st, q⟩ := k _ rfl T hT X
  refine ⟨t, ?_, q⟩
  have h1 := X.bastoreOut hexec (by rw [hT]; exact hP q0 _ ha) ((hK.2 t0 _ ht).1 n (fun j => .int (f j))) (j := i) (by show (i < 0 ∨ (arrV _ _ _).slots.size ≤ _); rw [arrV_size]; exact Classical.byContradiction hout) (g := F0 m pc ls (.int x :: .int i :: .ref a :: rest)) rfl (rest := rest) rfl (by rw [hb]; exact hdg) t
  simp only [arrV_size] at h1
  exact h1 st
theorem vx_caldZ {D : va_G} {cl : List vw_C} {ws : va_W} {tys : List (ClassId × FieldType)} {a : Nat} (hexec : p.tables.exec = Jvm.exec) (hb : c.code = cc) (hK : va_K D cl tys s) (hP : va_P D cl ws H) (q0 t0 : Nat) {cA : ClassId} {n : Nat} {f : Nat → Int32} (ha : ws[q0]? = some (a, .inl (cA, n, .inl f))) (ht : tys[t0]? = some (cA, .char)) {i : Int32} (hout : ¬ vp_in i n) (hdg : decode cc pc = .ok (.caload, 1))
    (k : ∀ tx : String, tx = (toString "Index " ++ toString i ++ toString " out of bounds for length " ++ toString n : String) → vx_Note p l e R s m args below meth c H locs cells slots Q (F0 m pc ls rest) "java/lang/ArrayIndexOutOfBoundsException" tx) : W p l e R s m args below meth c H locs cells slots Q (F0 m pc ls (.int i :: .ref a :: rest)) := by
  intro T hT X
  obtain ⟨t, st, q⟩ := k _ rfl T hT X
  refine ⟨t, ?_, q⟩
  have h1 := X.caloadOut hexec (by rw [hT]; exact hP q0 _ ha) ((hK.2 t0 _ ht).1 n (fun j => .int (f j))) (j := i) (by show (i < 0 ∨ (arrV _ _ _).slots.size ≤ _); rw [arrV_size]; exact Classical.byContradiction hout) (g := F0 m pc ls (.int i :: .ref a :: rest)) rfl (rest := rest) rfl (by rw [hb]; exact hdg) t
  simp only [arrV_size] at h1
  exact h1 st
theorem vx_castZ {D : va_G} {cl : List vw_C} {ws : va_W} {tys : List (ClassId × FieldType)} {a : Nat} (hexec : p.tables.exec = Jvm.exec) (hb : c.code = cc) (hK : va_K D cl tys s) (hP : va_P D cl ws H) (q0 t0 : Nat) {cA : ClassId} {n : Nat} {f : Nat → Int32} (ha : ws[q0]? = some (a, .inl (cA, n, .inl f))) (ht : tys[t0]? = some (cA, .char)) {i : Int32} {x : Int32} (hout : ¬ vp_in i n) (hdg : decode cc pc = .ok (.castore, 1))
    (k : ∀ tx : String, tx = (toString "Index " ++ toString i ++ toString " out of bounds for length " ++ toString n : String) → vx_Note p l e R s m args below meth c H locs cells slots Q (F0 m pc ls rest) "java/lang/ArrayIndexOutOfBoundsException" tx) : W p l e R s m args below meth c H locs cells slots Q (F0 m pc ls (.int x :: .int i :: .ref a :: rest)) := by
  intro T hT X
  obtain ⟨t, st, q⟩ := k _ rfl T hT X
  refine ⟨t, ?_, q⟩
  have h1 := X.castoreOut hexec (by rw [hT]; exact hP q0 _ ha) ((hK.2 t0 _ ht).1 n (fun j => .int (f j))) (j := i) (by show (i < 0 ∨ (arrV _ _ _).slots.size ≤ _); rw [arrV_size]; exact Classical.byContradiction hout) (g := F0 m pc ls (.int x :: .int i :: .ref a :: rest)) rfl (rest := rest) rfl (by rw [hb]; exact hdg) t
  simp only [arrV_size] at h1
  exact h1 st
theorem vx_saldZ {D : va_G} {cl : List vw_C} {ws : va_W} {tys : List (ClassId × FieldType)} {a : Nat} (hexec : p.tables.exec = Jvm.exec) (hb : c.code = cc) (hK : va_K D cl tys s) (hP : va_P D cl ws H) (q0 t0 : Nat) {cA : ClassId} {n : Nat} {f : Nat → Int32} (ha : ws[q0]? = some (a, .inl (cA, n, .inl f))) (ht : tys[t0]? = some (cA, .short)) {i : Int32} (hout : ¬ vp_in i n) (hdg : decode cc pc = .ok (.saload, 1))
    (k : ∀ tx : String, tx = (toString "Index " ++ toString i ++ toString " out of bounds for length " ++ toString n : String) → vx_Note p l e R s m args below meth c H locs cells slots Q (F0 m pc ls rest) "java/lang/ArrayIndexOutOfBoundsException" tx) : W p l e R s m args below meth c H locs cells slots Q (F0 m pc ls (.int i :: .ref a :: rest)) := by
  intro T hT X
  obtain ⟨t, st, q⟩ := k _ rfl T hT X
  refine ⟨t, ?_, q⟩
  have h1 := X.saloadOut hexec (by rw [hT]; exact hP q0 _ ha) ((hK.2 t0 _ ht).1 n (fun j => .int (f j))) (j := i) (by show (i < 0 ∨ (arrV _ _ _).slots.size ≤ _); rw [arrV_size]; exact Classical.byContradiction hout) (g := F0 m pc ls (.int i :: .ref a :: rest)) rfl (rest := rest) rfl (by rw [hb]; exact hdg) t
  simp only [arrV_size] at h1
  exact h1 st
theorem vx_sastZ {D : va_G} {cl : List vw_C} {ws : va_W} {tys : List (ClassId × FieldType)} {a : Nat} (hexec : p.tables.exec = Jvm.exec) (hb : c.code = cc) (hK : va_K D cl tys s) (hP : va_P D cl ws H) (q0 t0 : Nat) {cA : ClassId} {n : Nat} {f : Nat → Int32} (ha : ws[q0]? = some (a, .inl (cA, n, .inl f))) (ht : tys[t0]? = some (cA, .short)) {i : Int32} {x : Int32} (hout : ¬ vp_in i n) (hdg : decode cc pc = .ok (.sastore, 1))
    (k : ∀ tx : String, tx = (toString "Index " ++ toString i ++ toString " out of bounds for length " ++ toString n : String) → vx_Note p l e R s m args below meth c H locs cells slots Q (F0 m pc ls rest) "java/lang/ArrayIndexOutOfBoundsException" tx) : W p l e R s m args below meth c H locs cells slots Q (F0 m pc ls (.int x :: .int i :: .ref a :: rest)) := by
  intro T hT X
  obtain ⟨t, st, q⟩ := k _ rfl T hT X
  refine ⟨t, ?_, q⟩
  have h1 := X.sastoreOut hexec (by rw [hT]; exact hP q0 _ ha) ((hK.2 t0 _ ht).1 n (fun j => .int (f j))) (j := i) (by show (i < 0 ∨ (arrV _ _ _).slots.size ≤ _); rw [arrV_size]; exact Classical.byContradiction hout) (g := F0 m pc ls (.int x :: .int i :: .ref a :: rest)) rfl (rest := rest) rfl (by rw [hb]; exact hdg) t
  simp only [arrV_size] at h1
  exact h1 st
theorem vx_laldZ {D : va_G} {cl : List vw_C} {ws : va_W} {tys : List (ClassId × FieldType)} {a : Nat} (hexec : p.tables.exec = Jvm.exec) (hb : c.code = cc) (hK : va_K D cl tys s) (hP : va_P D cl ws H) (q0 t0 : Nat) {cA : ClassId} {n : Nat} {f : Nat → Int64} (ha : ws[q0]? = some (a, .inl (cA, n, .inr (.inl f)))) (ht : tys[t0]? = some (cA, .long)) {i : Int32} (hout : ¬ vp_in i n) (hdg : decode cc pc = .ok (.laload, 1))
    (k : ∀ tx : String, tx = (toString "Index " ++ toString i ++ toString " out of bounds for length " ++ toString n : String) → vx_Note p l e R s m args below meth c H locs cells slots Q (F0 m pc ls rest) "java/lang/ArrayIndexOutOfBoundsException" tx) : W p l e R s m args below meth c H locs cells slots Q (F0 m pc ls (.int i :: .ref a :: rest)) := by
  intro T hT X
  obtain ⟨t, st, q⟩ := k _ rfl T hT X
  refine ⟨t, ?_, q⟩
  have h1 := X.laloadOut hexec (by rw [hT]; exact hP q0 _ ha) ((hK.2 t0 _ ht).1 n (fun j => .long (f j))) (j := i) (by show (i < 0 ∨ (arrV _ _ _).slots.size ≤ _); rw [arrV_size]; exact Classical.byContradiction hout) (g := F0 m pc ls (.int i :: .ref a :: rest)) rfl (rest := rest) rfl (by rw [hb]; exact hdg) t
  simp only [arrV_size] at h1
  exact h1 st
theorem vx_lastZ {D : va_G} {cl : List vw_C} {ws : va_W} {tys : List (ClassId × FieldType)} {a : Nat} (hexec : p.tables.exec = Jvm.exec) (hb : c.code = cc) (hK : va_K D cl tys s) (hP : va_P D cl ws H) (q0 t0 : Nat) {cA : ClassId} {n : Nat} {f : Nat → Int64} (ha : ws[q0]? = some (a, .inl (cA, n, .inr (.inl f)))) (ht : tys[t0]? = some (cA, .long)) {i : Int32} {x : Int64} (hout : ¬ vp_in i n) (hdg : decode cc pc = .ok (.lastore, 1))
    (k : ∀ tx : String, tx = (toString "Index " ++ toString i ++ toString " out of bounds for length " ++ toString n : String) → vx_Note p l e R s m args below meth c H locs cells slots Q (F0 m pc ls rest) "java/lang/ArrayIndexOutOfBoundsException" tx) : W p l e R s m args below meth c H locs cells slots Q (F0 m pc ls (.long x :: .int i :: .ref a :: rest)) := by
  intro T hT X
  obtain ⟨t, st, q⟩ := k _ rfl T hT X
  refine ⟨t, ?_, q⟩
  have h1 := X.lastoreOut hexec (by rw [hT]; exact hP q0 _ ha) ((hK.2 t0 _ ht).1 n (fun j => .long (f j))) (j := i) (by show (i < 0 ∨ (arrV _ _ _).slots.size ≤ _); rw [arrV_size]; exact Classical.byContradiction hout) (g := F0 m pc ls (.long x :: .int i :: .ref a :: rest)) rfl (rest := rest) rfl (by rw [hb]; exact hdg) t
  simp only [arrV_size] at h1
  exact h1 st
theorem vx_faldZ {D : va_G} {cl : List vw_C} {ws : va_W} {tys : List (ClassId × FieldType)} {a : Nat} (hexec : p.tables.exec = Jvm.exec) (hb : c.code = cc) (hK : va_K D cl tys s) (hP : va_P D cl ws H) (q0 t0 : Nat) {cA : ClassId} {n : Nat} {f : Nat → UInt32} (ha : ws[q0]? = some (a, .inl (cA, n, .inr (.inr (.inl f))))) (ht : tys[t0]? = some (cA, .float)) {i : Int32} (hout : ¬ vp_in i n) (hdg : decode cc pc = .ok (.faload, 1))
    (k : ∀ tx : String, tx = (toString "Index " ++ toString i ++ toString " out of bounds for length " ++ toString n : String) → vx_Note p l e R s m args below meth c H locs cells slots Q (F0 m pc ls rest) "java/lang/ArrayIndexOutOfBoundsException" tx) : W p l e R s m args below meth c H locs cells slots Q (F0 m pc ls (.int i :: .ref a :: rest)) := by
  intro T hT X
  obtain ⟨t, st, q⟩ := k _ rfl T hT X
  refine ⟨t, ?_, q⟩
  have h1 := X.faloadOut hexec (by rw [hT]; exact hP q0 _ ha) ((hK.2 t0 _ ht).1 n (fun j => .float (f j))) (j := i) (by show (i < 0 ∨ (arrV _ _ _).slots.size ≤ _); rw [arrV_size]; exact Classical.byContradiction hout) (g := F0 m pc ls (.int i :: .ref a :: rest)) rfl (rest := rest) rfl (by rw [hb]; exact hdg) t
  simp only [arrV_size] at h1
  exact h1 st
theorem vx_fastZ {D : va_G} {cl : List vw_C} {ws : va_W} {tys : List (ClassId × FieldType)} {a : Nat} (hexec : p.tables.exec = Jvm.exec) (hb : c.code = cc) (hK : va_K D cl tys s) (hP : va_P D cl ws H) (q0 t0 : Nat) {cA : ClassId} {n : Nat} {f : Nat → UInt32} (ha : ws[q0]? = some (a, .inl (cA, n, .inr (.inr (.inl f))))) (ht : tys[t0]? = some (cA, .float)) {i : Int32} {x : UInt32} (hout : ¬ vp_in i n) (hdg : decode cc pc = .ok (.fastore, 1))
    (k : ∀ tx : String, tx = (toString "Index " ++ toString i ++ toString " out of bounds for length " ++ toString n : String) → vx_Note p l e R s m args below meth c H locs cells slots Q (F0 m pc ls rest) "java/lang/ArrayIndexOutOfBoundsException" tx) : W p l e R s m args below meth c H locs cells slots Q (F0 m pc ls (.float x :: .int i :: .ref a :: rest)) := by
  intro T hT X
  obtain ⟨t, st, q⟩ := k _ rfl T hT X
  refine ⟨t, ?_, q⟩
  have h1 := X.fastoreOut hexec (by rw [hT]; exact hP q0 _ ha) ((hK.2 t0 _ ht).1 n (fun j => .float (f j))) (j := i) (by show (i < 0 ∨ (arrV _ _ _).slots.size ≤ _); rw [arrV_size]; exact Classical.byContradiction hout) (g := F0 m pc ls (.float x :: .int i :: .ref a :: rest)) rfl (rest := rest) rfl (by rw [hb]; exact hdg) t
  simp only [arrV_size] at h1
  exact h1 st
theorem vx_daldZ {D : va_G} {cl : List vw_C} {ws : va_W} {tys : List (ClassId × FieldType)} {a : Nat} (hexec : p.tables.exec = Jvm.exec) (hb : c.code = cc) (hK : va_K D cl tys s) (hP : va_P D cl ws H) (q0 t0 : Nat) {cA : ClassId} {n : Nat} {f : Nat → UInt64} (ha : ws[q0]? = some (a, .inl (cA, n, .inr (.inr (.inr (.inl f)))))) (ht : tys[t0]? = some (cA, .double)) {i : Int32} (hout : ¬ vp_in i n) (hdg : decode cc pc = .ok (.daload, 1))
    (k : ∀ tx : String, tx = (toString "Index " ++ toString i ++ toString " out of bounds for length " ++ toString n : String) → vx_Note p l e R s m args below meth c H locs cells slots Q (F0 m pc ls rest) "java/lang/ArrayIndexOutOfBoundsException" tx) : W p l e R s m args below meth c H locs cells slots Q (F0 m pc ls (.int i :: .ref a :: rest)) := by
  intro T hT X
  obtain ⟨t, st, q⟩ := k _ rfl T hT X
  refine ⟨t, ?_, q⟩
  have h1 := X.daloadOut hexec (by rw [hT]; exact hP q0 _ ha) ((hK.2 t0 _ ht).1 n (fun j => .double (f j))) (j := i) (by show (i < 0 ∨ (arrV _ _ _).slots.size ≤ _); rw [arrV_size]; exact Classical.byContradiction hout) (g := F0 m pc ls (.int i :: .ref a :: rest)) rfl (rest := rest) rfl (by rw [hb]; exact hdg) t
  simp only [arrV_size] at h1
  exact h1 st
theorem vx_dastZ {D : va_G} {cl : List vw_C} {ws : va_W} {tys : List (ClassId × FieldType)} {a : Nat} (hexec : p.tables.exec = Jvm.exec) (hb : c.code = cc) (hK : va_K D cl tys s) (hP : va_P D cl ws H) (q0 t0 : Nat) {cA : ClassId} {n : Nat} {f : Nat → UInt64} (ha : ws[q0]? = some (a, .inl (cA, n, .inr (.inr (.inr (.inl f)))))) (ht : tys[t0]? = some (cA, .double)) {i : Int32} {x : UInt64} (hout : ¬ vp_in i n) (hdg : decode cc pc = .ok (.dastore, 1))
    (k : ∀ tx : String, tx = (toString "Index " ++ toString i ++ toString " out of bounds for length " ++ toString n : String) → vx_Note p l e R s m args below meth c H locs cells slots Q (F0 m pc ls rest) "java/lang/ArrayIndexOutOfBoundsException" tx) : W p l e R s m args below meth c H locs cells slots Q (F0 m pc ls (.double x :: .int i :: .ref a :: rest)) := by
  intro T hT X
  obtain ⟨t, st, q⟩ := k _ rfl T hT X
  refine ⟨t, ?_, q⟩
  have h1 := X.dastoreOut hexec (by rw [hT]; exact hP q0 _ ha) ((hK.2 t0 _ ht).1 n (fun j => .double (f j))) (j := i) (by show (i < 0 ∨ (arrV _ _ _).slots.size ≤ _); rw [arrV_size]; exact Classical.byContradiction hout) (g := F0 m pc ls (.double x :: .int i :: .ref a :: rest)) rfl (rest := rest) rfl (by rw [hb]; exact hdg) t
  simp only [arrV_size] at h1
  exact h1 st
theorem vx_arraylengthN (hexec : p.tables.exec = Jvm.exec) (hb : c.code = cc) (hdg : decode cc pc = .ok (.arraylength, 1)) (k : vx_NoteN p l e R s m args below meth c H locs cells slots Q (F0 m pc ls rest)) : W p l e R s m args below meth c H locs cells slots Q (F0 m pc ls (.null :: rest)) := by
  intro T hT X
  obtain ⟨t, st, q⟩ := k T hT X
  exact ⟨t, X.arraylengthNull hexec (g := F0 m pc ls (.null :: rest)) rfl (rest := rest) rfl (by rw [hb]; exact hdg) t st, q⟩
theorem vx_ialoadN (hexec : p.tables.exec = Jvm.exec) (hb : c.code = cc) {i : Int32} (hdg : decode cc pc = .ok (.iaload, 1)) (k : vx_NoteN p l e R s m args below meth c H locs cells slots Q (F0 m pc ls rest)) : W p l e R s m args below meth c H locs cells slots Q (F0 m pc ls (.int i :: .null :: rest)) := by
  intro T hT X
  obtain ⟨t, st, q⟩ := k T hT X
  exact ⟨t, X.ialoadNull hexec (g := F0 m pc ls (.int i :: .null :: rest)) rfl (rest := rest) rfl (by rw [hb]; exact hdg) t st, q⟩
theorem vx_laloadN (hexec : p.tables.exec = Jvm.exec) (hb : c.code = cc) {i : Int32} (hdg : decode cc pc = .ok (.laload, 1)) (k : vx_NoteN p l e R s m args below meth c H locs cells slots Q (F0 m pc ls rest)) : W p l e R s m args below meth c H locs cells slots Q (F0 m pc ls (.int i :: .null :: rest)) := by
  intro T hT X
  obtain ⟨t, st, q⟩ := k T hT X
  exact ⟨t, X.laloadNull hexec (g := F0 m pc ls (.int i :: .null :: rest)) rfl (rest := rest) rfl (by rw [hb]; exact hdg) t st, q⟩
theorem vx_faloadN (hexec : p.tables.exec = Jvm.exec) (hb : c.code = cc) {i : Int32} (hdg : decode cc pc = .ok (.faload, 1)) (k : vx_NoteN p l e R s m args below meth c H locs cells slots Q (F0 m pc ls rest)) : W p l e R s m args below meth c H locs cells slots Q (F0 m pc ls (.int i :: .null :: rest)) := by
  intro T hT X
  obtain ⟨t, st, q⟩ := k T hT X
  exact ⟨t, X.faloadNull hexec (g := F0 m pc ls (.int i :: .null :: rest)) rfl (rest := rest) rfl (by rw [hb]; exact hdg) t st, q⟩
theorem vx_daloadN (hexec : p.tables.exec = Jvm.exec) (hb : c.code = cc) {i : Int32} (hdg : decode cc pc = .ok (.daload, 1)) (k : vx_NoteN p l e R s m args below meth c H locs cells slots Q (F0 m pc ls rest)) : W p l e R s m args below meth c H locs cells slots Q (F0 m pc ls (.int i :: .null :: rest)) := by
  intro T hT X
  obtain ⟨t, st, q⟩ := k T hT X
  exact ⟨t, X.daloadNull hexec (g := F0 m pc ls (.int i :: .null :: rest)) rfl (rest := rest) rfl (by rw [hb]; exact hdg) t st, q⟩
theorem vx_aaloadN (hexec : p.tables.exec = Jvm.exec) (hb : c.code = cc) {i : Int32} (hdg : decode cc pc = .ok (.aaload, 1)) (k : vx_NoteN p l e R s m args below meth c H locs cells slots Q (F0 m pc ls rest)) : W p l e R s m args below meth c H locs cells slots Q (F0 m pc ls (.int i :: .null :: rest)) := by
  intro T hT X
  obtain ⟨t, st, q⟩ := k T hT X
  exact ⟨t, X.aaloadNull hexec (g := F0 m pc ls (.int i :: .null :: rest)) rfl (rest := rest) rfl (by rw [hb]; exact hdg) t st, q⟩
theorem vx_baloadN (hexec : p.tables.exec = Jvm.exec) (hb : c.code = cc) {i : Int32} (hdg : decode cc pc = .ok (.baload, 1)) (k : vx_NoteN p l e R s m args below meth c H locs cells slots Q (F0 m pc ls rest)) : W p l e R s m args below meth c H locs cells slots Q (F0 m pc ls (.int i :: .null :: rest)) := by
  intro T hT X
  obtain ⟨t, st, q⟩ := k T hT X
  exact ⟨t, X.baloadNull hexec (g := F0 m pc ls (.int i :: .null :: rest)) rfl (rest := rest) rfl (by rw [hb]; exact hdg) t st, q⟩
theorem vx_caloadN (hexec : p.tables.exec = Jvm.exec) (hb : c.code = cc) {i : Int32} (hdg : decode cc pc = .ok (.caload, 1)) (k : vx_NoteN p l e R s m args below meth c H locs cells slots Q (F0 m pc ls rest)) : W p l e R s m args below meth c H locs cells slots Q (F0 m pc ls (.int i :: .null :: rest)) := by
  intro T hT X
  obtain ⟨t, st, q⟩ := k T hT X
  exact ⟨t, X.caloadNull hexec (g := F0 m pc ls (.int i :: .null :: rest)) rfl (rest := rest) rfl (by rw [hb]; exact hdg) t st, q⟩
theorem vx_saloadN (hexec : p.tables.exec = Jvm.exec) (hb : c.code = cc) {i : Int32} (hdg : decode cc pc = .ok (.saload, 1)) (k : vx_NoteN p l e R s m args below meth c H locs cells slots Q (F0 m pc ls rest)) : W p l e R s m args below meth c H locs cells slots Q (F0 m pc ls (.int i :: .null :: rest)) := by
  intro T hT X
  obtain ⟨t, st, q⟩ := k T hT X
  exact ⟨t, X.saloadNull hexec (g := F0 m pc ls (.int i :: .null :: rest)) rfl (rest := rest) rfl (by rw [hb]; exact hdg) t st, q⟩
theorem vx_iastoreN (hexec : p.tables.exec = Jvm.exec) (hb : c.code = cc) {x : Int32} {i : Int32} (hdg : decode cc pc = .ok (.iastore, 1)) (k : vx_NoteN p l e R s m args below meth c H locs cells slots Q (F0 m pc ls rest)) : W p l e R s m args below meth c H locs cells slots Q (F0 m pc ls (.int x :: .int i :: .null :: rest)) := by
  intro T hT X
  obtain ⟨t, st, q⟩ := k T hT X
  exact ⟨t, X.iastoreNull hexec (g := F0 m pc ls (.int x :: .int i :: .null :: rest)) rfl (rest := rest) rfl (by rw [hb]; exact hdg) t st, q⟩
theorem vx_lastoreN (hexec : p.tables.exec = Jvm.exec) (hb : c.code = cc) {x : Int64} {i : Int32} (hdg : decode cc pc = .ok (.lastore, 1)) (k : vx_NoteN p l e R s m args below meth c H locs cells slots Q (F0 m pc ls rest)) : W p l e R s m args below meth c H locs cells slots Q (F0 m pc ls (.long x :: .int i :: .null :: rest)) := by
  intro T hT X
  obtain ⟨t, st, q⟩ := k T hT X
  exact ⟨t, X.lastoreNull hexec (g := F0 m pc ls (.long x :: .int i :: .null :: rest)) rfl (rest := rest) rfl (by rw [hb]; exact hdg) t st, q⟩
theorem vx_fastoreN (hexec : p.tables.exec = Jvm.exec) (hb : c.code = cc) {x : UInt32} {i : Int32} (hdg : decode cc pc = .ok (.fastore, 1)) (k : vx_NoteN p l e R s m args below meth c H locs cells slots Q (F0 m pc ls rest)) : W p l e R s m args below meth c H locs cells slots Q (F0 m pc ls (.float x :: .int i :: .null :: rest)) := by
  intro T hT X
  obtain ⟨t, st, q⟩ := k T hT X
  exact ⟨t, X.fastoreNull hexec (g := F0 m pc ls (.float x :: .int i :: .null :: rest)) rfl (rest := rest) rfl (by rw [hb]; exact hdg) t st, q⟩
theorem vx_dastoreN (hexec : p.tables.exec = Jvm.exec) (hb : c.code = cc) {x : UInt64} {i : Int32} (hdg : decode cc pc = .ok (.dastore, 1)) (k : vx_NoteN p l e R s m args below meth c H locs cells slots Q (F0 m pc ls rest)) : W p l e R s m args below meth c H locs cells slots Q (F0 m pc ls (.double x :: .int i :: .null :: rest)) := by
  intro T hT X
  obtain ⟨t, st, q⟩ := k T hT X
  exact ⟨t, X.dastoreNull hexec (g := F0 m pc ls (.double x :: .int i :: .null :: rest)) rfl (rest := rest) rfl (by rw [hb]; exact hdg) t st, q⟩
theorem vx_bastoreN (hexec : p.tables.exec = Jvm.exec) (hb : c.code = cc) {x : Int32} {i : Int32} (hdg : decode cc pc = .ok (.bastore, 1)) (k : vx_NoteN p l e R s m args below meth c H locs cells slots Q (F0 m pc ls rest)) : W p l e R s m args below meth c H locs cells slots Q (F0 m pc ls (.int x :: .int i :: .null :: rest)) := by
  intro T hT X
  obtain ⟨t, st, q⟩ := k T hT X
  exact ⟨t, X.bastoreNull hexec (g := F0 m pc ls (.int x :: .int i :: .null :: rest)) rfl (rest := rest) rfl (by rw [hb]; exact hdg) t st, q⟩
theorem vx_castoreN (hexec : p.tables.exec = Jvm.exec) (hb : c.code = cc) {x : Int32} {i : Int32} (hdg : decode cc pc = .ok (.castore, 1)) (k : vx_NoteN p l e R s m args below meth c H locs cells slots Q (F0 m pc ls rest)) : W p l e R s m args below meth c H locs cells slots Q (F0 m pc ls (.int x :: .int i :: .null :: rest)) := by
  intro T hT X
  obtain ⟨t, st, q⟩ := k T hT X
  exact ⟨t, X.castoreNull hexec (g := F0 m pc ls (.int x :: .int i :: .null :: rest)) rfl (rest := rest) rfl (by rw [hb]; exact hdg) t st, q⟩
theorem vx_sastoreN (hexec : p.tables.exec = Jvm.exec) (hb : c.code = cc) {x : Int32} {i : Int32} (hdg : decode cc pc = .ok (.sastore, 1)) (k : vx_NoteN p l e R s m args below meth c H locs cells slots Q (F0 m pc ls rest)) : W p l e R s m args below meth c H locs cells slots Q (F0 m pc ls (.int x :: .int i :: .null :: rest)) := by
  intro T hT X
  obtain ⟨t, st, q⟩ := k T hT X
  exact ⟨t, X.sastoreNull hexec (g := F0 m pc ls (.int x :: .int i :: .null :: rest)) rfl (rest := rest) rfl (by rw [hb]; exact hdg) t st, q⟩
theorem vx_invokeN {own C : String} {index maxL : Nat} {y : MethodName} {bytes : ByteArray} {ret : Option FieldType} (hexec : p.tables.exec = Jvm.exec) (hb : c.code = cc) (hown : s.vm.findClass own = some m.cls) (hlink : (Cond.methodLink own index y).before args s = true) (hinst : (Cond.instanceMethod y).before args s = true) (hcode : (Cond.code y bytes maxL ret).before args s = true) (hsel : (Cond.selects C y y).before args s = true)
    (hx : y.cls ≠ "java/lang/invoke/MethodHandle" ∧ y.cls ≠ "java/lang/invoke/VarHandle") {As : List Value} (hlen : (parseMethodDescriptor y.desc).map (fun d => d.parameters.length) = some As.length) (hdg : decode cc pc = .ok (.invokevirtual index, 3))
    (k : vx_NoteN p l e R s m args below meth c H locs cells slots Q (F0 m pc ls rest)) {st0 : List Value} (hst : st0 = As.reverse ++ .null :: rest) : W p l e R s m args below meth c H locs cells slots Q (F0 m pc ls st0) := by
  intro T hT X
  obtain ⟨r0, r, hn, hrm, hstR, hsigR⟩ := va_Decl.of hinst hcode
  obtain ⟨c2, r2, m2, q1, q2, q3, q4, kP, hkP, hkPi⟩ := Cond.selects_spec hsel
  cases hn.symm.trans q3
  have hl9 : As.length = r.sig.parameters.length := by
    rw [hsigR] at hlen
    exact (Option.some.inj hlen).symm
  obtain ⟨vm', X1, st1⟩ := X.invokevirtualNull hexec hown hlink hn hrm hstR hkP hkPi hx (g := F0 m pc ls st0) rfl (argsL := As) (rest := rest) hl9 hst (by rw [hb]; exact hdg)
  obtain ⟨t, st, q⟩ := k (T.setVm vm') hT X1
  exact ⟨t, st1 t st, q⟩
theorem vx_newarrayZ {atype : ArrayType} (hexec : p.tables.exec = Jvm.exec) (hb : c.code = cc) {n : Int32} (h0 : n < 0) (hdg : decode cc pc = .ok (.newarray atype, 2)) (k : ∀ tx : String, tx = toString n → vx_Note p l e R s m args below meth c H locs cells slots Q (F0 m pc ls rest) "java/lang/NegativeArraySizeException" tx) : W p l e R s m args below meth c H locs cells slots Q (F0 m pc ls (.int n :: rest)) := by
  intro T hT X
  obtain ⟨t, st, q⟩ := k _ rfl T hT X
  exact ⟨t, X.newarrayNegative hexec (g := F0 m pc ls (.int n :: rest)) rfl h0 (rest := rest) rfl (by rw [hb]; exact hdg) t st, q⟩
end
end VXM
/-! ===== END ===== -/
/-! ===== BEGIN an exception as an object: made, kept, thrown later (no traces kept) ===== -/
section VXK
variable {p : Program} {l : Launch} {e : Env} {R : Room} {s : State} {m₀ : MethodId} {args : Array Value} {below : List Frame} {meth : Method} {c : Code} {W : State} {locs : List Loc} {cells slots : Nat}
set_option maxHeartbeats 1000000 in
theorem vx_ctorMadeS (X : Stand p l e R s m₀ args below meth c W locs cells slots) (hexec : p.tables.exec = Jvm.exec) (htr : e.platform.stackTraces = false) {own cls : String} {names : List String} {ic : Nat}
    (hown : s.vm.findClass own = some m₀.cls) (hcls : Bundle.fit cls = true) (hnames : ∀ n ∈ names, Bundle.fit n = true)
    (h : ∀ a ∈ Bundle.ownAtoms own ic cls names, a.before args s = true)
    (hlocs : ∀ x ∈ locs, ∀ cell, s.heap[x.base]? = some cell → cell.vm.isStatics = false)
    {a : Addr} {cX : ClassId} {kX : Class} (hfoundX : s.vm.findClass cls = some cX) (hkX : s.vm.classes[cX]? = some kX) (hcell : W.heap[a]? = some (freshCell cX kX)) (hnew : s.heap.size ≤ a)
    {msg : Value} (hmsg : msg.isRef = true)
    {g : JFrame} (hg : g.method = m₀) (hsize : g.locals.size = c.maxLocals) {rest : List Value} (hstack : g.stack = msg :: .ref a :: .ref a :: rest)
    (hd6 : decode c.code g.pc = .ok (.invokespecial ic, 3))
    (hRframes : names.length + 3 < R.frames) (hRlocals : 2 * g.monitorRoom + ((Value.ref a :: rest).map fun v => v.category).sum + (13 * (names.length + 1) + 42) ≤ R.locals) :
    ∃ (V : State) (ce : Cell) (L : List Loc), Stand p l e R s m₀ args below meth c (V.setCell a ce) (locs ++ L) cells slots ∧ (∀ y ∈ L, y.base = a) ∧ a < V.heap.size ∧ ce.cls = cX ∧ ce.vm = .none ∧
      ∀ target, Steps p.tables e below ((V.setCell a ce).setTop { g with stack := .ref a :: rest, pc := g.pc + 3 }) target → Steps p.tables e below (W.setTop g) target := by
  have howns : e.platform.frameOwnsMonitors = true := by rw [X.admits.platform]
  have hfin : e.platform.finalization = false := by rw [X.admits.platform]
  have hpl : e.platform.magicAccessors = ({} : Platform).magicAccessors := by rw [X.admits.platform]
  have a' : ∀ x, x ∈ Bundle.ownAtoms own ic cls names → x.holds args s none s [] = true := fun x hx => h x hx
  obtain ⟨T, Z0, L, -, Y⟩ := ThrowableC.of_atoms (args := args) howns hfin hpl (fun x hx => h x (by simp [Bundle.ownAtoms, hx]))
  obtain ⟨Z, M, LZ, LM, hnZ⟩ := Init0T.ofS_atoms (args := args) hpl L Y (fun x hx => h x (by simp [Bundle.ownAtoms, hx]))
  obtain ⟨P1, Ps, hlen, L1, hL, hP1m, hlink1, hlink⟩ := Bundle.chainS (args := args) hpl hnZ names cls hcls hnames (fun x hx => h x (by simp [Bundle.ownAtoms, hx]))
  have hfound : s.vm.findClass cls = some P1.m.cls := findClass_of_methodNamed hP1m
  cases Option.some.inj (hfoundX.symm.trans hfound)
  obtain ⟨c1, kX', hc1, hk, hord, -, -, hn6⟩ := Cond.instantiable_spec (a' (.instantiable cls 6) (by simp [Bundle.ownAtoms]))
  cases Option.some.inj (hc1.symm.trans hfound)
  cases Option.some.inj (hkX.symm.trans hk)
  have hsel0 : selectMethod e.platform s.vm P1.m.cls T.fill0 = .method T.fill0 := by
    obtain ⟨c2, r2, m2, q1, q2, q3, q4, -⟩ := Cond.selects_spec (a' (.selects cls Bundle.tFill0 Bundle.tFill0) (by simp [Bundle.ownAtoms]))
    cases Option.some.inj (q1.symm.trans hfound)
    cases Option.some.inj (q2.symm.trans (State.methodFound?_of_named Y.fill0 (by decide)))
    cases Option.some.inj (q3.symm.trans Y.fill0)
    rw [Launch.admits_selectMethod X.admits]; exact q4
  have hselF : selectMethod e.platform s.vm P1.m.cls T.fill = .method T.fill := by
    obtain ⟨c2, r2, m2, q1, q2, q3, q4, -⟩ := Cond.selects_spec (a' (.selects cls Bundle.tFill Bundle.tFill) (by simp [Bundle.ownAtoms]))
    cases Option.some.inj (q1.symm.trans hfound)
    cases Option.some.inj (q2.symm.trans (State.methodFound?_of_named Y.fill (by decide)))
    cases Option.some.inj (q3.symm.trans Y.fill)
    rw [Launch.admits_selectMethod X.admits]; exact q4
  obtain ⟨cellS0, hcS0, hiss⟩ := Y.statics
  obtain ⟨u0, hu0⟩ := Cond.staticRefV Y.unassigned L.unassignedStatic L.statics hcS0 hiss (a' (.isRef (.static Bundle.tN "UNASSIGNED_STACK" Bundle.steD)) (by simp [Bundle.ownAtoms]))
  obtain ⟨sen, hsen⟩ := Cond.staticRefV Y.sentinel L.sentinelStatic L.statics hcS0 hiss (a' (.isRef (.static Bundle.tN "SUPPRESSED_SENTINEL" Bundle.listD)) (by simp [Bundle.ownAtoms]))
  obtain ⟨ci198, i198, fB, hk198, hg198, ha198, hsB, -, hnB, htB, hffB⟩ := Cond.ownField (t := .object "java/lang/Object") Y.found L.cls (by decide +kernel) (a' (.fieldLink Bundle.tN 198 Bundle.tN "backtrace" "Ljava/lang/Object;") (by simp [Bundle.ownAtoms])) (a' (.lays Bundle.tN Bundle.tN "backtrace" "Ljava/lang/Object;") (by simp [Bundle.ownAtoms])) e.platform hpl
  obtain ⟨cellS, hcS', heS, -, hkeep⟩ := X.same.2.2.2.2.2 T.aS cellS0 hcS0
  have hcellS : W.heap[T.aS]? = some cellS := hcS'
  have hout' : ∀ i, (⟨T.aS, i⟩ : Loc) ∉ locs := fun i hmem => by
    have := hlocs _ hmem cellS0 hcS0
    rw [hiss] at this; cases this
  have hknownS : cellS.vm ≠ .unknown := by
    rw [heS]; intro hu
    rw [show cellS0.vm = .unknown from hu] at hiss
    cases hiss
  have hneS : T.aS ≠ a := Nat.ne_of_lt (Nat.lt_of_lt_of_le (Array.getElem?_eq_some_iff.mp hcS0).1 hnew)
  obtain ⟨iM, hffM⟩ := Y.msg
  obtain ⟨tyC, dC, hdC, hdnC⟩ := Cond.laysAt hfound hk Y.cause (a' (.lays cls Bundle.tN "cause" "Ljava/lang/Throwable;") (by simp [Bundle.ownAtoms]))
  obtain ⟨tyS, dS, hdS, hdnS⟩ := Cond.laysAt hfound hk Y.stack (a' (.lays cls Bundle.tN "stackTrace" Bundle.steD) (by simp [Bundle.ownAtoms]))
  obtain ⟨tyP, dP, hdP, hdnP⟩ := Cond.laysAt hfound hk Y.supp (a' (.lays cls Bundle.tN "suppressedExceptions" Bundle.listD) (by simp [Bundle.ownAtoms]))
  obtain ⟨tyM, dM, hdM, hdnM⟩ := Cond.laysAt hfound hk hffM (a' (.lays cls Bundle.tN "detailMessage" "Ljava/lang/String;") (by simp [Bundle.ownAtoms]))
  obtain ⟨tyB, dB, hdB, hdnB⟩ := Cond.laysAt hfound hk hffB (a' (.lays cls Bundle.tN "backtrace" "Ljava/lang/Object;") (by simp [Bundle.ownAtoms]))
  have bC := Cond.laysApart hdB hdC hdnB hdnC (by rw [hnB, Y.causeName]; decide)
  have bS := Cond.laysApart hdB hdS hdnB hdnS (by rw [hnB, Y.stackName]; decide)
  have bP := Cond.laysApart hdB hdP hdnB hdnP (by rw [hnB, Y.suppName]; decide)
  have hskip : SkipFacts T e.platform s (fun u => u) u0 ((preparedCellV T.toThrowableT (freshCell P1.m.cls kX) a u0 sen).withEntry W.cur) :=
    ⟨{ ci198 := ci198, i198 := i198, fBack := fB }, ⟨hk198, hg198, ha198, hsB⟩, by
      have := fresh_default (c := P1.m.cls) tyB
      rw [htB] at this
      simpa [preparedCellV, Cell.setSlot, Cell.withEntry, Array.getElem?_setIfInBounds, bC, bS, bP, bC.symm, bS.symm, bP.symm, defaultValue] using this, fun _ _ => rfl⟩
  obtain ⟨tm, methC, cdC, kC, vm₁, hnC, -, -, -, -, -, -, -, hW₁, st1⟩ := Steps.initColdS (tb := p.tables) (e := e) (below := below) (s := s) (U := W) X.here hexec X.warmed hpl hown (t := Bundle.initS cls) rfl rfl (Bundle.fit_spec hcls).2
    (a' (.methodLink own ic (Bundle.initS cls)) (by simp [Bundle.ownAtoms])) (h (.instanceMethod (Bundle.initS cls)) (by cases names <;> simp [Bundle.ownAtoms, Bundle.chainSAtoms, Bundle.passSAtoms])) (bytes := Bundle.six) (maxL := 2) (h (.code (Bundle.initS cls) Bundle.six 2 none) (by cases names <;> simp [Bundle.ownAtoms, Bundle.chainSAtoms, Bundle.passSAtoms]))
    (f := g) hg (a := a) (msg := msg) (rest := .ref a :: rest) hstack hd6
  cases Option.some.inj (hnC.symm.trans hP1m)
  have X₁ := X.noted hW₁
  obtain ⟨vm₂, X₂, st2⟩ := X₁.ctorMessageOffV hexec (g := { g with stack := .ref a :: rest }) hg hsize T L Z LZ M LM (P1 :: Ps)
    (fun P hP => by rcases List.mem_cons.mp hP with rfl | hP; exact L1; exact hL P hP) ⟨hlink1, hlink⟩ (u0 := u0) (sen := sen) (self := a) hmsg (cell := freshCell P1.m.cls kX) (cellS := cellS)
    hcell (fun _ => by simp) (by simp) rfl rfl hsel0 hselF hcellS hneS hknownS (by rw [hkeep _ (hout' _)]; exact hu0) (by rw [hkeep _ (hout' _)]; exact hsen)
    (Takes.of_laid hk hord tyC (by rw [Y.causeType]; rfl)) (Takes.of_laid hk hord tyS (by rw [Y.stackType]; exact fits_refV_array _ u0)) (Takes.of_laid hk hord tyP (by rw [Y.suppType]; exact fits_refV_object _ sen))
    (Takes.of_laid hk hord tyM (by rw [Y.msgType]; exact fits_refV_object _ ⟨msg, hmsg⟩)) Y.objLocals hskip htr [] hd6
    (by simp only [List.length_cons, hlen]; omega) (by simp only [List.length_cons, hlen]; exact hRlocals)
  have hlt : a < ((W.setVm vm₁).setVm vm₂).heap.size := (Array.getElem?_eq_some_iff.mp hcell).1
  refine ⟨(W.setVm vm₁).setVm vm₂, _, _, X₂, fun y hy => ?_, hlt, rfl, rfl, fun target hwalk => st1 _ (fun acts => ?_)⟩
  · simp only [List.mem_cons, List.not_mem_nil, or_false] at hy
    rcases hy with rfl | rfl | rfl | rfl | rfl <;> rfl
  · rw [doInvoke_state]
    exact st2 _ hwalk
set_option maxHeartbeats 1000000 in
theorem vx_ctorMade0 (X : Stand p l e R s m₀ args below meth c W locs cells slots) (hexec : p.tables.exec = Jvm.exec) (htr : e.platform.stackTraces = false) {own cls : String} {names : List String} {ic : Nat}
    (hown : s.vm.findClass own = some m₀.cls) (hcls : Bundle.fit cls = true) (hnames : ∀ n ∈ names, Bundle.fit n = true)
    (h : ∀ a ∈ Bundle.ownAtoms0 own ic cls names, a.before args s = true)
    (hlocs : ∀ x ∈ locs, ∀ cell, s.heap[x.base]? = some cell → cell.vm.isStatics = false)
    {a : Addr} {cX : ClassId} {kX : Class} (hfoundX : s.vm.findClass cls = some cX) (hkX : s.vm.classes[cX]? = some kX) (hcell : W.heap[a]? = some (freshCell cX kX)) (hnew : s.heap.size ≤ a)
    {g : JFrame} (hg : g.method = m₀) (hsize : g.locals.size = c.maxLocals) {rest : List Value} (hstack : g.stack = .ref a :: .ref a :: rest)
    (hd6 : decode c.code g.pc = .ok (.invokespecial ic, 3))
    (hRframes : names.length + 3 < R.frames) (hRlocals : 2 * g.monitorRoom + ((Value.ref a :: rest).map fun v => v.category).sum + (13 * (names.length + 1) + 41) ≤ R.locals) :
    ∃ (V : State) (ce : Cell) (L : List Loc), Stand p l e R s m₀ args below meth c (V.setCell a ce) (locs ++ L) cells slots ∧ (∀ y ∈ L, y.base = a) ∧ a < V.heap.size ∧ ce.cls = cX ∧ ce.vm = .none ∧
      ∀ target, Steps p.tables e below ((V.setCell a ce).setTop { g with stack := .ref a :: rest, pc := g.pc + 3 }) target → Steps p.tables e below (W.setTop g) target := by
  have howns : e.platform.frameOwnsMonitors = true := by rw [X.admits.platform]
  have hfin : e.platform.finalization = false := by rw [X.admits.platform]
  have hpl : e.platform.magicAccessors = ({} : Platform).magicAccessors := by rw [X.admits.platform]
  have a' : ∀ x, x ∈ Bundle.ownAtoms0 own ic cls names → x.holds args s none s [] = true := fun x hx => h x hx
  obtain ⟨T, Z, L, LZ, Y⟩ := ThrowableC.of_atoms (args := args) howns hfin hpl (fun x hx => h x (by simp [Bundle.ownAtoms0, hx]))
  obtain ⟨P1, Ps, hlen, L1, hL, hP1m, hlink1, hlink⟩ := Bundle.chain0 (args := args) hpl Y.init0 names cls hcls hnames (fun x hx => h x (by simp [Bundle.ownAtoms0, hx]))
  have hfound : s.vm.findClass cls = some P1.m.cls := findClass_of_methodNamed hP1m
  cases Option.some.inj (hfoundX.symm.trans hfound)
  obtain ⟨c1, kX', hc1, hk, hord, -, -, hn6⟩ := Cond.instantiable_spec (a' (.instantiable cls 6) (by simp [Bundle.ownAtoms0]))
  cases Option.some.inj (hc1.symm.trans hfound)
  cases Option.some.inj (hkX.symm.trans hk)
  have hsel0 : selectMethod e.platform s.vm P1.m.cls T.fill0 = .method T.fill0 := by
    obtain ⟨c2, r2, m2, q1, q2, q3, q4, -⟩ := Cond.selects_spec (a' (.selects cls Bundle.tFill0 Bundle.tFill0) (by simp [Bundle.ownAtoms0]))
    cases Option.some.inj (q1.symm.trans hfound)
    cases Option.some.inj (q2.symm.trans (State.methodFound?_of_named Y.fill0 (by decide)))
    cases Option.some.inj (q3.symm.trans Y.fill0)
    rw [Launch.admits_selectMethod X.admits]; exact q4
  have hselF : selectMethod e.platform s.vm P1.m.cls T.fill = .method T.fill := by
    obtain ⟨c2, r2, m2, q1, q2, q3, q4, -⟩ := Cond.selects_spec (a' (.selects cls Bundle.tFill Bundle.tFill) (by simp [Bundle.ownAtoms0]))
    cases Option.some.inj (q1.symm.trans hfound)
    cases Option.some.inj (q2.symm.trans (State.methodFound?_of_named Y.fill (by decide)))
    cases Option.some.inj (q3.symm.trans Y.fill)
    rw [Launch.admits_selectMethod X.admits]; exact q4
  obtain ⟨cellS0, hcS0, hiss⟩ := Y.statics
  obtain ⟨u0, hu0⟩ := Cond.staticRefV Y.unassigned L.unassignedStatic L.statics hcS0 hiss (a' (.isRef (.static Bundle.tN "UNASSIGNED_STACK" Bundle.steD)) (by simp [Bundle.ownAtoms0]))
  obtain ⟨sen, hsen⟩ := Cond.staticRefV Y.sentinel L.sentinelStatic L.statics hcS0 hiss (a' (.isRef (.static Bundle.tN "SUPPRESSED_SENTINEL" Bundle.listD)) (by simp [Bundle.ownAtoms0]))
  obtain ⟨ci198, i198, fB, hk198, hg198, ha198, hsB, -, hnB, htB, hffB⟩ := Cond.ownField (t := .object "java/lang/Object") Y.found L.cls (by decide +kernel) (a' (.fieldLink Bundle.tN 198 Bundle.tN "backtrace" "Ljava/lang/Object;") (by simp [Bundle.ownAtoms0])) (a' (.lays Bundle.tN Bundle.tN "backtrace" "Ljava/lang/Object;") (by simp [Bundle.ownAtoms0])) e.platform hpl
  obtain ⟨cellS, hcS', heS, -, hkeep⟩ := X.same.2.2.2.2.2 T.aS cellS0 hcS0
  have hcellS : W.heap[T.aS]? = some cellS := hcS'
  have hout' : ∀ i, (⟨T.aS, i⟩ : Loc) ∉ locs := fun i hmem => by
    have := hlocs _ hmem cellS0 hcS0
    rw [hiss] at this; cases this
  have hknownS : cellS.vm ≠ .unknown := by
    rw [heS]; intro hu
    rw [show cellS0.vm = .unknown from hu] at hiss
    cases hiss
  have hneS : T.aS ≠ a := Nat.ne_of_lt (Nat.lt_of_lt_of_le (Array.getElem?_eq_some_iff.mp hcS0).1 hnew)
  obtain ⟨iM, hffM⟩ := Y.msg
  obtain ⟨tyC, dC, hdC, hdnC⟩ := Cond.laysAt hfound hk Y.cause (a' (.lays cls Bundle.tN "cause" "Ljava/lang/Throwable;") (by simp [Bundle.ownAtoms0]))
  obtain ⟨tyS, dS, hdS, hdnS⟩ := Cond.laysAt hfound hk Y.stack (a' (.lays cls Bundle.tN "stackTrace" Bundle.steD) (by simp [Bundle.ownAtoms0]))
  obtain ⟨tyP, dP, hdP, hdnP⟩ := Cond.laysAt hfound hk Y.supp (a' (.lays cls Bundle.tN "suppressedExceptions" Bundle.listD) (by simp [Bundle.ownAtoms0]))
  obtain ⟨tyM, dM, hdM, hdnM⟩ := Cond.laysAt hfound hk hffM (a' (.lays cls Bundle.tN "detailMessage" "Ljava/lang/String;") (by simp [Bundle.ownAtoms0]))
  obtain ⟨tyB, dB, hdB, hdnB⟩ := Cond.laysAt hfound hk hffB (a' (.lays cls Bundle.tN "backtrace" "Ljava/lang/Object;") (by simp [Bundle.ownAtoms0]))
  have bC := Cond.laysApart hdB hdC hdnB hdnC (by rw [hnB, Y.causeName]; decide)
  have bS := Cond.laysApart hdB hdS hdnB hdnS (by rw [hnB, Y.stackName]; decide)
  have bP := Cond.laysApart hdB hdP hdnB hdnP (by rw [hnB, Y.suppName]; decide)
  have hskip : SkipFacts T e.platform s (fun u => u) u0 ((preparedCellV T.toThrowableT (freshCell P1.m.cls kX) a u0 sen).withEntry W.cur) :=
    ⟨{ ci198 := ci198, i198 := i198, fBack := fB }, ⟨hk198, hg198, ha198, hsB⟩, by
      have := fresh_default (c := P1.m.cls) tyB
      rw [htB] at this
      simpa [preparedCellV, Cell.setSlot, Cell.withEntry, Array.getElem?_setIfInBounds, bC, bS, bP, bC.symm, bS.symm, bP.symm, defaultValue] using this, fun _ _ => rfl⟩
  obtain ⟨tm, methC, cdC, kC, vm₁, hnC, -, -, -, -, -, -, -, hW₁, st1⟩ := Steps.initCold (tb := p.tables) (e := e) (below := below) (s := s) (U := W) X.here hexec X.warmed hpl hown (t := Bundle.init0 cls) rfl rfl (Bundle.fit_spec hcls).2
    (a' (.methodLink own ic (Bundle.init0 cls)) (by simp [Bundle.ownAtoms0])) (h (.instanceMethod (Bundle.init0 cls)) (by cases names <;> simp [Bundle.ownAtoms0, Bundle.chain0Atoms, Bundle.passAtoms])) (bytes := Bundle.five) (maxL := 1) (h (.code (Bundle.init0 cls) Bundle.five 1 none) (by cases names <;> simp [Bundle.ownAtoms0, Bundle.chain0Atoms, Bundle.passAtoms]))
    (f := g) hg (a := a) (rest := .ref a :: rest) hstack hd6
  cases Option.some.inj (hnC.symm.trans hP1m)
  have X₁ := X.noted hW₁
  obtain ⟨vm₂, X₂, st2⟩ := X₁.ctorPlainOffV hexec (g := { g with stack := .ref a :: rest }) hg hsize T L Z LZ (P1 :: Ps)
    (fun P hP => by rcases List.mem_cons.mp hP with rfl | hP; exact L1; exact hL P hP) ⟨hlink1, hlink⟩ (u0 := u0) (sen := sen) (self := a) (cell := freshCell P1.m.cls kX) (cellS := cellS)
    hcell (fun _ => by simp) (by simp) rfl rfl hsel0 hselF hcellS hneS hknownS (by rw [hkeep _ (hout' _)]; exact hu0) (by rw [hkeep _ (hout' _)]; exact hsen)
    (Takes.of_laid hk hord tyC (by rw [Y.causeType]; rfl)) (Takes.of_laid hk hord tyS (by rw [Y.stackType]; exact fits_refV_array _ u0)) (Takes.of_laid hk hord tyP (by rw [Y.suppType]; exact fits_refV_object _ sen)) Y.objLocals hskip htr [] hd6
    (by simp only [List.length_cons, hlen]; omega) (by simp only [List.length_cons, hlen]; exact hRlocals)
  have hlt : a < ((W.setVm vm₁).setVm vm₂).heap.size := (Array.getElem?_eq_some_iff.mp hcell).1
  refine ⟨(W.setVm vm₁).setVm vm₂, _, _, X₂, fun y hy => ?_, hlt, rfl, rfl, fun target hwalk => st1 _ (fun acts => ?_)⟩
  · simp only [List.mem_cons, List.not_mem_nil, or_false] at hy
    rcases hy with rfl | rfl | rfl | rfl <;> rfl
  · rw [doInvoke_state]
    exact st2 _ hwalk
end VXK
section VXK2
variable {p : Program} {l : Launch} {e : Env} {R : Room} {s : State} {m : MethodId} {args : Array Value} {below : List Frame} {meth : Method} {c : Code} {H : Heap} {locs : List Loc} {cells slots : Nat} {Q : State → Prop}
variable {ls : Array Slot} {rest : List Value} {D : va_G} {cl : List vw_C} {tys : List (ClassId × FieldType)} {ws : va_W}
/-- 'new E("text")' that isn't thrown at once: the object goes on the stack -/
theorem vx_makeS {cc : ByteArray} {pc : Nat} (hexec : p.tables.exec = Jvm.exec) (hb : c.code = cc) (hl : l.stackTraces = false) {own cls text : String} {names : List String} {ik is ic sa ci : Nat} {A : Nat → Prop} {T0 : u_T}
    (hown : s.vm.findClass own = some m.cls) (hcls : Bundle.fit cls = true) (hnames : ∀ n ∈ names, Bundle.fit n = true)
    (hk : (Cond.classLink own ik cls).before args s = true) (hini : (Cond.initialized cls).before args s = true) (hstr : vk_R own is text sa s) (hat : ∀ w ∈ vx_atS own ic cls names, w.before args s = true)
    (hgood : ∀ w ∈ Cond.classLink own ik cls :: Cond.initialized cls :: vx_atS own ic cls names, vx_ot w = true)
    (hU : vx_Zq Bundle.tN "UNASSIGNED_STACK" Bundle.steD A s s.heap) (hN : vx_Zq Bundle.tN "SUPPRESSED_SENTINEL" Bundle.listD A s s.heap) (hS : va_S A s.heap H locs) (hsize : ls.size = c.maxLocals)
    (d0 : decode cc pc = .ok (.new ik, 3)) (d3 : decode cc (pc + 3) = .ok (.dup, 1)) (d4 : decode cc (pc + 4) = .ok (.ldc is, 2)) (d6 : decode cc (pc + 6) = .ok (.invokespecial ic, 3))
    (hK : va_K D cl tys s) (hP : va_P D cl ws H) (hD : va_D A ws) (hA : ∀ q, s.heap.size ≤ q → A q) (hc : cl[ci]? = some (cls, T0, 0))
    (hRframes : names.length + 3 < R.frames) (hRlocals : (rest.map fun v => v.category).sum + (13 * (names.length + 1) + 43) ≤ R.locals) (hRcells : cells + 1 ≤ R.cells) (hRslots : slots + 6 ≤ R.slots)
    (kk : ∀ (q : Nat) (H1 : Heap), va_P D cl (ws ++ [(q, .inr (ci, []))]) H1 → va_D A (ws ++ [(q, .inr (ci, []))]) → va_S A s.heap H1 locs → W p l e R s m args below meth c H1 locs (cells + 1) (slots + 6) Q (F0 m (pc + 9) ls (.ref q :: rest))) :
    W p l e R s m args below meth c H locs cells slots Q (F0 m pc ls rest) := by
  intro T hT X
  subst hT
  have htr : e.platform.stackTraces = false := (show e.platform.stackTraces = l.stackTraces by rw [X.admits.platform]).trans hl
  have Y := vx_rebase X (R' := { frames := R.frames, locals := R.locals, cells := 1, slots := 6 }) (Nat.le_refl _) (Nat.le_refl _) hRcells hRslots
  obtain ⟨s', hA'⟩ : ∃ z, z = (T.setVm s.vm).setFrames (.invoking m args :: below) := ⟨_, rfl⟩
  rw [← hA'] at Y
  have hvm : s'.vm = s.vm := by rw [hA']; rfl
  have hhp : s'.heap = T.heap := by rw [hA']; rfl
  have hW0 : s.WarmedH s'.vm := by rw [hvm]; exact State.WarmedH.refl s
  have hat' : ∀ w ∈ vx_atS own ic cls names, w.before args s' = true := fun w hw => vx_ot_at hW0 hvm.symm (hgood w (List.mem_cons_of_mem _ (List.mem_cons_of_mem _ hw))) (hat w hw)
  have hk' : (Cond.classLink own ik cls).before args s' = true := vx_ot_at hW0 hvm.symm (hgood _ List.mem_cons_self) hk
  have hini' : (Cond.initialized cls).before args s' = true := vx_ot_at hW0 hvm.symm (hgood _ (List.mem_cons_of_mem _ List.mem_cons_self)) hini
  have hU' : vx_Zq Bundle.tN "UNASSIGNED_STACK" Bundle.steD A s' s'.heap := by rw [hhp]; exact vx_Zq.moved hW0.alike (hU.kept hS.2.1)
  have hN' : vx_Zq Bundle.tN "SUPPRESSED_SENTINEL" Bundle.listD A s' s'.heap := by rw [hhp]; exact vx_Zq.moved hW0.alike (hN.kept hS.2.1)
  have h : ∀ w ∈ Bundle.ownAtoms own ic cls names, w.before args s' = true := vx_own hat' (vx_isRefq hU'.1) (vx_isRefq hN'.1) hU'.2.word hN'.2.word
  have hown' : s'.vm.findClass own = some m.cls := by rw [hvm]; exact hown
  have hins : (Cond.instantiable cls 6).before args s' = true := h _ (by simp [Bundle.ownAtoms])
  obtain ⟨vm₁, cX, kX, hfX, hkX, -, -, X₁, st1⟩ := Y.newCold hexec (own := own) (C := cls) (index := ik) (n := 6) hown' hk' hins hini'
    (g := F0 m pc ls rest) rfl (by rw [hb]; exact d0) (Nat.le_refl _) (Nat.le_refl _)
  generalize hT1 : (T.setVm vm₁).pushCell { cls := cX, slots := kX.instanceTypes.map defaultValue, vm := .none } = T1 at X₁ st1
  have hcat : (Value.ref T.heap.size).category = 1 := rfl
  have hcellA : T1.heap[T.heap.size]? = some (freshCell cX kX) := by rw [← hT1]; exact State.heap_pushCell_size _ _
  have d3' : decode c.code (pc + 3) = .ok (.dup, 1) := by rw [hb]; exact d3
  have d4' : decode c.code (pc + 4) = .ok (.ldc is, 2) := by rw [hb]; exact d4
  have hstr' : vk_R own is text sa s' := vk_R.warm hW0 hstr
  obtain ⟨V, ce, L, Z, hL, hlt, hcl9, hvm9, st⟩ := vx_ctorMadeS X₁ hexec htr (own := own) (cls := cls) (names := names) (ic := ic) hown' hcls hnames h (fun x hx => nomatch hx) hfX hkX hcellA (by rw [hhp]; exact Nat.le_refl _) (msg := .ref sa) rfl
    (g := { method := m, pc := pc + 6, locals := ls, stack := .ref sa :: .ref T.heap.size :: .ref T.heap.size :: rest, locked := none }) rfl hsize (rest := rest) rfl
    (by rw [hb]; exact d6) hRframes (by simp only [List.map_cons, List.sum_cons, hcat]; omega)
  have Z0 := Stand.forget (locs := []) Z (fun y hy => by rw [hL y hy, hhp]; exact Nat.le_refl _)
  obtain ⟨f1, f2⟩ := vx_frame Z0.same
  rw [hhp] at f1 f2
  have hcid : ce.cls = D.1 ci := by
    rw [hcl9]
    have h1 := (hK.1 ci _ hc).2.1
    rw [hvm] at hfX
    exact Option.some.inj (hfX.symm.trans h1)
  have hh : (V.setCell T.heap.size ce).heap[T.heap.size]? = some ce := heapAt_setCell_self (s := V) ce hlt
  subst hA'
  have X5 := vx_back9 X Y Z0
  have X6 : Stand p l e R s m args below meth c (V.setCell T.heap.size ce) locs (cells + 1) (slots + 6) := { X5 with same := X5.same.mono (by omega) (by omega) }
  have hk9 : ∀ (k : Nat) (x : Nat × va_E), ws[k]? = some x → (V.setCell T.heap.size ce).heap[x.1]? = T.heap[x.1]? := fun k x hx => f2 x.1 ((hP k x hx).lt) (fun z hz => nomatch hz)
  obtain ⟨t, a1, b1⟩ := kk T.heap.size (V.setCell T.heap.size ce).heap ((hP.kept hk9).app (fun k x hx => by
      have hz : k < 1 := (List.getElem?_eq_some_iff.mp hx).1
      rw [show k = 0 by omega] at hx
      cases hx
      exact ⟨_, hc, ce, hh, hcid, hvm9, fun k hk => absurd hk (Nat.not_lt_zero k)⟩)) (hD.push hP rfl (hA _ hS.1)) ⟨Nat.le_trans hS.1 f1, fun q h1 h2 => (f2 q (Nat.lt_of_lt_of_le h1 hS.1) (fun z hz => nomatch hz)).trans (hS.2.1 q h1 h2), hS.2.2⟩ _ rfl X6
  refine ⟨t, st1 _ ?_, b1⟩
  show Steps p.tables e below (T1.setTop { method := m, pc := pc + 3, locals := ls, stack := .ref T.heap.size :: rest, locked := none }) _
  jvm_step X₁.here [X₁.here.top, hexec, d3', Value.category]
  exact X₁.ldcString hexec (own := own) (text := text) (index := is) (a := sa) hown' hstr'.1 hstr'.2
    (g := { method := m, pc := pc + 4, locals := ls, stack := .ref T.heap.size :: .ref T.heap.size :: rest, locked := none }) rfl d4' _ (st _ a1)
/-- 'new E()' that isn't thrown at once: the object goes on the stack -/
theorem vx_make0 {cc : ByteArray} {pc : Nat} (hexec : p.tables.exec = Jvm.exec) (hb : c.code = cc) (hl : l.stackTraces = false) {own cls : String} {names : List String} {ik ic ci : Nat} {A : Nat → Prop} {T0 : u_T}
    (hown : s.vm.findClass own = some m.cls) (hcls : Bundle.fit cls = true) (hnames : ∀ n ∈ names, Bundle.fit n = true)
    (hk : (Cond.classLink own ik cls).before args s = true) (hini : (Cond.initialized cls).before args s = true) (hat : ∀ w ∈ vx_at0 own ic cls names, w.before args s = true)
    (hgood : ∀ w ∈ Cond.classLink own ik cls :: Cond.initialized cls :: vx_at0 own ic cls names, vx_ot w = true)
    (hU : vx_Zq Bundle.tN "UNASSIGNED_STACK" Bundle.steD A s s.heap) (hN : vx_Zq Bundle.tN "SUPPRESSED_SENTINEL" Bundle.listD A s s.heap) (hS : va_S A s.heap H locs) (hsize : ls.size = c.maxLocals)
    (d0 : decode cc pc = .ok (.new ik, 3)) (d3 : decode cc (pc + 3) = .ok (.dup, 1)) (d4 : decode cc (pc + 4) = .ok (.invokespecial ic, 3))
    (hK : va_K D cl tys s) (hP : va_P D cl ws H) (hD : va_D A ws) (hA : ∀ q, s.heap.size ≤ q → A q) (hc : cl[ci]? = some (cls, T0, 0))
    (hRframes : names.length + 3 < R.frames) (hRlocals : (rest.map fun v => v.category).sum + (13 * (names.length + 1) + 42) ≤ R.locals) (hRcells : cells + 1 ≤ R.cells) (hRslots : slots + 6 ≤ R.slots)
    (kk : ∀ (q : Nat) (H1 : Heap), va_P D cl (ws ++ [(q, .inr (ci, []))]) H1 → va_D A (ws ++ [(q, .inr (ci, []))]) → va_S A s.heap H1 locs → W p l e R s m args below meth c H1 locs (cells + 1) (slots + 6) Q (F0 m (pc + 7) ls (.ref q :: rest))) :
    W p l e R s m args below meth c H locs cells slots Q (F0 m pc ls rest) := by
  intro T hT X
  subst hT
  have htr : e.platform.stackTraces = false := (show e.platform.stackTraces = l.stackTraces by rw [X.admits.platform]).trans hl
  have Y := vx_rebase X (R' := { frames := R.frames, locals := R.locals, cells := 1, slots := 6 }) (Nat.le_refl _) (Nat.le_refl _) hRcells hRslots
  obtain ⟨s', hA'⟩ : ∃ z, z = (T.setVm s.vm).setFrames (.invoking m args :: below) := ⟨_, rfl⟩
  rw [← hA'] at Y
  have hvm : s'.vm = s.vm := by rw [hA']; rfl
  have hhp : s'.heap = T.heap := by rw [hA']; rfl
  have hW0 : s.WarmedH s'.vm := by rw [hvm]; exact State.WarmedH.refl s
  have hat' : ∀ w ∈ vx_at0 own ic cls names, w.before args s' = true := fun w hw => vx_ot_at hW0 hvm.symm (hgood w (List.mem_cons_of_mem _ (List.mem_cons_of_mem _ hw))) (hat w hw)
  have hk' : (Cond.classLink own ik cls).before args s' = true := vx_ot_at hW0 hvm.symm (hgood _ List.mem_cons_self) hk
  have hini' : (Cond.initialized cls).before args s' = true := vx_ot_at hW0 hvm.symm (hgood _ (List.mem_cons_of_mem _ List.mem_cons_self)) hini
  have hU' : vx_Zq Bundle.tN "UNASSIGNED_STACK" Bundle.steD A s' s'.heap := by rw [hhp]; exact vx_Zq.moved hW0.alike (hU.kept hS.2.1)
  have hN' : vx_Zq Bundle.tN "SUPPRESSED_SENTINEL" Bundle.listD A s' s'.heap := by rw [hhp]; exact vx_Zq.moved hW0.alike (hN.kept hS.2.1)
  have h : ∀ w ∈ Bundle.ownAtoms0 own ic cls names, w.before args s' = true := vx_own hat' (vx_isRefq hU'.1) (vx_isRefq hN'.1) hU'.2.word hN'.2.word
  have hown' : s'.vm.findClass own = some m.cls := by rw [hvm]; exact hown
  have hins : (Cond.instantiable cls 6).before args s' = true := h _ (by simp [Bundle.ownAtoms0])
  obtain ⟨vm₁, cX, kX, hfX, hkX, -, -, X₁, st1⟩ := Y.newCold hexec (own := own) (C := cls) (index := ik) (n := 6) hown' hk' hins hini'
    (g := F0 m pc ls rest) rfl (by rw [hb]; exact d0) (Nat.le_refl _) (Nat.le_refl _)
  generalize hT1 : (T.setVm vm₁).pushCell { cls := cX, slots := kX.instanceTypes.map defaultValue, vm := .none } = T1 at X₁ st1
  have hcat : (Value.ref T.heap.size).category = 1 := rfl
  have hcellA : T1.heap[T.heap.size]? = some (freshCell cX kX) := by rw [← hT1]; exact State.heap_pushCell_size _ _
  have d3' : decode c.code (pc + 3) = .ok (.dup, 1) := by rw [hb]; exact d3
  obtain ⟨V, ce, L, Z, hL, hlt, hcl9, hvm9, st⟩ := vx_ctorMade0 X₁ hexec htr (own := own) (cls := cls) (names := names) (ic := ic) hown' hcls hnames h (fun x hx => nomatch hx) hfX hkX hcellA (by rw [hhp]; exact Nat.le_refl _)
    (g := { method := m, pc := pc + 4, locals := ls, stack := .ref T.heap.size :: .ref T.heap.size :: rest, locked := none }) rfl hsize (rest := rest) rfl
    (by rw [hb]; exact d4) hRframes (by simp only [List.map_cons, List.sum_cons, hcat]; omega)
  have Z0 := Stand.forget (locs := []) Z (fun y hy => by rw [hL y hy, hhp]; exact Nat.le_refl _)
  obtain ⟨f1, f2⟩ := vx_frame Z0.same
  rw [hhp] at f1 f2
  have hcid : ce.cls = D.1 ci := by
    rw [hcl9]
    have h1 := (hK.1 ci _ hc).2.1
    rw [hvm] at hfX
    exact Option.some.inj (hfX.symm.trans h1)
  have hh : (V.setCell T.heap.size ce).heap[T.heap.size]? = some ce := heapAt_setCell_self (s := V) ce hlt
  subst hA'
  have X5 := vx_back9 X Y Z0
  have X6 : Stand p l e R s m args below meth c (V.setCell T.heap.size ce) locs (cells + 1) (slots + 6) := { X5 with same := X5.same.mono (by omega) (by omega) }
  have hk9 : ∀ (k : Nat) (x : Nat × va_E), ws[k]? = some x → (V.setCell T.heap.size ce).heap[x.1]? = T.heap[x.1]? := fun k x hx => f2 x.1 ((hP k x hx).lt) (fun z hz => nomatch hz)
  obtain ⟨t, a1, b1⟩ := kk T.heap.size (V.setCell T.heap.size ce).heap ((hP.kept hk9).app (fun k x hx => by
      have hz : k < 1 := (List.getElem?_eq_some_iff.mp hx).1
      rw [show k = 0 by omega] at hx
      cases hx
      exact ⟨_, hc, ce, hh, hcid, hvm9, fun k hk => absurd hk (Nat.not_lt_zero k)⟩)) (hD.push hP rfl (hA _ hS.1)) ⟨Nat.le_trans hS.1 f1, fun q h1 h2 => (f2 q (Nat.lt_of_lt_of_le h1 hS.1) (fun z hz => nomatch hz)).trans (hS.2.1 q h1 h2), hS.2.2⟩ _ rfl X6
  refine ⟨t, st1 _ ?_, b1⟩
  show Steps p.tables e below (T1.setTop { method := m, pc := pc + 3, locals := ls, stack := .ref T.heap.size :: rest, locked := none }) _
  jvm_step X₁.here [X₁.here.top, hexec, d3', Value.category]
  exact st _ a1
/-- 'throw x' of an object that was made before -/
theorem vx_athrow {cc : ByteArray} {pc : Nat} (hexec : p.tables.exec = Jvm.exec) (hb : c.code = cc) {q : Addr} (hdg : decode cc pc = .ok (.athrow, 1)) (k : vx_W p l e R s m args below meth c H locs cells slots Q (F0 m pc ls rest) q) : W p l e R s m args below meth c H locs cells slots Q (F0 m pc ls (.ref q :: rest)) := by
  intro T hT X
  obtain ⟨t, st, hq⟩ := k T hT X
  refine ⟨t, ?_, hq⟩
  have hdg' : decode c.code pc = .ok (.athrow, 1) := by rw [hb]; exact hdg
  jvm_step X.here [X.here.top, hexec, hdg', athrow.wp_sem]
  exact st
end VXK2
/-! ===== END ===== -/
/-! ===== BEGIN a constructor that throws (launches without stack traces) ===== -/
section VXIA
variable {p : Program} {l : Launch} {e : Env} {R : Room} {s : State} {m : MethodId} {args : Array Value} {below : List Frame} {meth : Method} {c : Code} {T : State} {locs : List Loc} {cells slots : Nat}
theorem vx_callI (X : Stand p l e R s m args below meth c T locs cells slots) (hexec : p.tables.exec = Jvm.exec) {own : String} {index : Nat} {y : MethodName} {bytes : ByteArray} {maxL : Nat}
    (hown : s.vm.findClass own = some m.cls) (hy1 : y.name = "<init>") (hlink : (Cond.methodLink own index y).before args s = true) (hinst : (Cond.instanceMethod y).before args s = true)
    (hcode : (Cond.code y bytes maxL none).before args s = true) (hy : y.cls ≠ "java/lang/invoke/MethodHandle" ∧ y.cls ≠ "java/lang/invoke/VarHandle")
    {W9 : Nat} {Pre : Pt → Array Value → Prop} {Post : Pt → Array Value → Option Value → Pt → Prop} {PostX : Pt → Array Value → Addr → Pt → Prop} (hK : vx_Back l R p e below s args y 3 W9 Pre Post PostX)
    {g : JFrame} (hg : g.method = m) (hsize : g.locals.size = c.maxLocals) {a : Addr} {argsL rest : List Value} (hlen : ∀ sig, parseMethodDescriptor y.desc = some sig → argsL.length = sig.parameters.length)
    (hstack : g.stack = argsL.reverse ++ .ref a :: rest) (hW : 2 * g.monitorRoom + (rest.map fun v => v.category).sum ≤ W9) (hdg : decode c.code g.pc = .ok (.invokespecial index, 3))
    (hpre : ∀ vm₁, s.WarmedH vm₁ → Pre ⟨T.setVm vm₁, locs, cells, slots⟩ (Value.ref a :: argsL).toArray) :
    (∃ (v : Option Value) (vm₁ : Vm) (B : Pt), s.WarmedH vm₁ ∧ Stand p l e R s m args below meth c B.U B.locs B.cells B.slots ∧ Post ⟨T.setVm vm₁, locs, cells, slots⟩ (Value.ref a :: argsL).toArray v B ∧
      ∀ target, Steps p.tables e below (B.U.setTop { g with pc := g.pc + 3, stack := v.toList ++ rest }) target → Steps p.tables e below (T.setTop g) target) ∨
    (∃ (q : Addr) (vm₁ : Vm) (B : Pt), s.WarmedH vm₁ ∧ Stand p l e R s m args below meth c B.U B.locs B.cells B.slots ∧ PostX ⟨T.setVm vm₁, locs, cells, slots⟩ (Value.ref a :: argsL).toArray q B ∧
      Steps p.tables e below (T.setTop g) ((B.U.setTop { g with stack := rest }).pushFrame (.throwing q))) := by
  subst hg
  have hpl : e.platform.magicAccessors = ({} : Platform).magicAccessors := by rw [X.admits.platform]
  obtain ⟨mk, methM, cM, kP, vm₁, hnamed, hmethM, hcodeM, -, hlocalsM, -, hkP, -, hW₁, hstep₁⟩ := Steps.initColdArgs (e := e) X.here hexec X.warmed hpl hown hy1 hy hlink hinst hcode (f := g) rfl hlen hstack hdg
  have X₁ := X.noted hW₁
  rcases hK g.method meth c ⟨T.setVm vm₁, locs, cells, slots⟩ { g with stack := rest } (.invokespecial index) mk (Value.ref a :: argsL).toArray X₁ rfl hsize hdg hW (X₁.named hnamed) (hpre vm₁ X₁.warmed) with ⟨v, B, X', hpost, hsteps⟩ | ⟨q, B, X', hpost, hsteps⟩
  · exact Or.inl ⟨v, vm₁, B, X₁.warmed, X', hpost, fun target h => hstep₁ _ fun acts => by rw [doInvoke_state]; exact hsteps.trans h⟩
  · exact Or.inr ⟨q, vm₁, B, X₁.warmed, X', hpost, hstep₁ _ fun acts => by rw [doInvoke_state]; exact hsteps⟩
end VXIA
section VXIB
variable {p : Program} {l : Launch} {e : Env} {R : Room} {s : State} {m : MethodId} {args : Array Value} {below : List Frame} {meth : Method} {c : Code} {H : Heap} {locs : List Loc} {cells slots : Nat}
variable {y : MethodName} {bytes cc : ByteArray} {maxL nL mc ms n index : Nat} {ret : Option FieldType} {ws : List Cond} {rm : Room} {Pc : Array Value → State → Prop} {Qc : Array Value → State → Outcome → State → Prop} {XC : String → State → State → Prop} {free : Addr → Prop} {Ts : List Cond} {own C : String} {b : Addr} {As rest : List Value} {g : JFrame}
theorem vx_runI (S : CallFix p m c cc nL s args Ts own) (hM : vx_Met l y ws rm Pc Qc XC mc ms free) (cw : CallB R s args own index y bytes maxL none ws rm mc ms n ∧ y.name = "<init>" ∧ (Cond.instanceMethod y).before args s = true) (hp : PreS s H Pc (.ref b :: As))
    (hg : g.method = m) (hn : As.length = n) (hsize : g.locals.size = nL) (hstack : g.stack = As.reverse ++ .ref b :: rest) (hW : 2 * g.monitorRoom + (rest.map fun v => v.category).sum ≤ 8) (hdg : decode cc g.pc = .ok (.invokespecial index, 3)) (hf : cells + mc ≤ R.cells ∧ slots + ms ≤ R.slots) :
    vx_Run p l e R s m args below meth c H locs cells slots mc ms g rest (Qc (Value.ref b :: As).toArray) XC free := by
  have hK : vx_Back l R p e below s args y 3 8 (PreOf R mc ms Pc) (PostOf Qc mc ms free) (vx_Post XC mc ms free) := vx_callBack cw.1 hM hp.1
  obtain ⟨⟨-, -, -, -, -, -, hcode, -, hy, hlen, hl⟩, hy1, hin⟩ := cw
  obtain ⟨hx, hb, hml, ho, -⟩ := S
  have hPc := hp.2
  intro T hT X
  rcases vx_callI X hx (bytes := bytes) (maxL := maxL) ho hy1 hl hin hcode hy hK hg (hsize.trans hml.symm) (a := b) (argsL := As) (rest := rest) (fun sig h => hn.trans (hlen sig h)) hstack hW (by rw [hb]; exact hdg)
    (fun vm₁ hW₁ => ⟨hf.1, hf.2, hPc (T.setVm vm₁) hT hW₁⟩) with ⟨v, vm₁, ⟨U', l2, c2, s2⟩, hW₁, X', ⟨g', mk, t, L, e1, e2, hq, h1, hL, h2, h3⟩, st⟩ | ⟨q, vm₁, ⟨U', l2, c2, s2⟩, hW₁, X', ⟨g', mk, t, L, E, ce, e1, e2, hq, hce, hcv, hcl, h1, hL, h2, h3⟩, st⟩
  · dsimp only [Pt.U, Pt.locs, Pt.cells, Pt.slots] at X' e1 e2 h1 h2 h3 st
    subst h1; subst h2; subst h3
    exact Or.inl ⟨v, (T.setVm vm₁).calling g' mk (Value.ref b :: As).toArray, t, U', L, hT, X', hL, e1, e2, hq, st⟩
  · dsimp only [Pt.U, Pt.locs, Pt.cells, Pt.slots] at X' e1 e2 h1 h2 h3 st hcl
    subst h1; subst h2; subst h3
    exact Or.inr ⟨q, (T.setVm vm₁).calling g' mk (Value.ref b :: As).toArray, t, U', L, E, ce, hT, X', hL, e1, e2, hq, hce, hcv, vx_cls hW₁ hcl, st⟩
end VXIB
/-! ===== END ===== -/
/-! ===== BEGIN a private constructor of a nest mate that throws ===== -/
section VXIC
variable {p : Program} {l : Launch} {e : Env} {R : Room} {s : State} {m : MethodId} {args : Array Value} {below : List Frame} {meth : Method} {c : Code} {T : State} {locs : List Loc} {cells slots : Nat}
theorem vx_callIN (X : Stand p l e R s m args below meth c T locs cells slots) (hexec : p.tables.exec = Jvm.exec) {own : String} {index : Nat} {host : String} {y : MethodName} {bytes : ByteArray} {maxL : Nat}
    (hown : s.vm.findClass own = some m.cls) (hy1 : y.name = "<init>") (hlink : (Cond.methodLinkNest own index y host).before args s = true) (hinst : (Cond.instanceMethod y).before args s = true)
    (hcode : (Cond.code y bytes maxL none).before args s = true) (hy : y.cls ≠ "java/lang/invoke/MethodHandle" ∧ y.cls ≠ "java/lang/invoke/VarHandle")
    {W9 : Nat} {Pre : Pt → Array Value → Prop} {Post : Pt → Array Value → Option Value → Pt → Prop} {PostX : Pt → Array Value → Addr → Pt → Prop} (hK : vx_Back l R p e below s args y 3 W9 Pre Post PostX)
    {g : JFrame} (hg : g.method = m) (hsize : g.locals.size = c.maxLocals) {a : Addr} {argsL rest : List Value} (hlen : ∀ sig, parseMethodDescriptor y.desc = some sig → argsL.length = sig.parameters.length)
    (hstack : g.stack = argsL.reverse ++ .ref a :: rest) (hW : 2 * g.monitorRoom + (rest.map fun v => v.category).sum ≤ W9) (hdg : decode c.code g.pc = .ok (.invokespecial index, 3))
    (hpre : ∀ vm₁, s.WarmedH vm₁ → Pre ⟨T.setVm vm₁, locs, cells, slots⟩ (Value.ref a :: argsL).toArray) :
    (∃ (v : Option Value) (vm₁ : Vm) (B : Pt), s.WarmedH vm₁ ∧ Stand p l e R s m args below meth c B.U B.locs B.cells B.slots ∧ Post ⟨T.setVm vm₁, locs, cells, slots⟩ (Value.ref a :: argsL).toArray v B ∧
      ∀ target, Steps p.tables e below (B.U.setTop { g with pc := g.pc + 3, stack := v.toList ++ rest }) target → Steps p.tables e below (T.setTop g) target) ∨
    (∃ (q : Addr) (vm₁ : Vm) (B : Pt), s.WarmedH vm₁ ∧ Stand p l e R s m args below meth c B.U B.locs B.cells B.slots ∧ PostX ⟨T.setVm vm₁, locs, cells, slots⟩ (Value.ref a :: argsL).toArray q B ∧
      Steps p.tables e below (T.setTop g) ((B.U.setTop { g with stack := rest }).pushFrame (.throwing q))) := by
  subst hg
  have hpl : e.platform.magicAccessors = ({} : Platform).magicAccessors := by rw [X.admits.platform]
  obtain ⟨mk, methM, cM, kP, vm₁, hnamed, hmethM, hcodeM, -, hlocalsM, -, hkP, -, hW₁, hstep₁⟩ := Steps.initColdArgsNest (e := e) X.here hexec X.warmed hpl hown hy1 hy hlink hinst hcode (f := g) rfl hlen hstack hdg
  have X₁ := X.noted hW₁
  rcases hK g.method meth c ⟨T.setVm vm₁, locs, cells, slots⟩ { g with stack := rest } (.invokespecial index) mk (Value.ref a :: argsL).toArray X₁ rfl hsize hdg hW (X₁.named hnamed) (hpre vm₁ X₁.warmed) with ⟨v, B, X', hpost, hsteps⟩ | ⟨q, B, X', hpost, hsteps⟩
  · exact Or.inl ⟨v, vm₁, B, X₁.warmed, X', hpost, fun target h => hstep₁ _ fun acts => by rw [doInvoke_state]; exact hsteps.trans h⟩
  · exact Or.inr ⟨q, vm₁, B, X₁.warmed, X', hpost, hstep₁ _ fun acts => by rw [doInvoke_state]; exact hsteps⟩
end VXIC
section VXID
variable {p : Program} {l : Launch} {e : Env} {R : Room} {s : State} {m : MethodId} {args : Array Value} {below : List Frame} {meth : Method} {c : Code} {H : Heap} {locs : List Loc} {cells slots : Nat}
theorem vx_runIN {y : MethodName} {bytes cc : ByteArray} {maxL nL mc ms n index : Nat} {ws : List Cond} {rm : Room} {Pc : Array Value → State → Prop} {Qc : Array Value → State → Outcome → State → Prop} {XC : String → State → State → Prop} {free : Addr → Prop} {Ts : List Cond} {own host : String} {b : Addr} {As rest : List Value} {g : JFrame}
    (S : CallFix p m c cc nL s args Ts own) (hM : vx_Met l y ws rm Pc Qc XC mc ms free) (cw : va_CN R s args own index y host bytes maxL none ws rm mc ms n ∧ y.name = "<init>" ∧ (Cond.instanceMethod y).before args s = true) (hp : PreS s H Pc (.ref b :: As))
    (hg : g.method = m) (hn : As.length = n) (hsize : g.locals.size = nL) (hstack : g.stack = As.reverse ++ .ref b :: rest) (hW : 2 * g.monitorRoom + (rest.map fun v => v.category).sum ≤ 8) (hdg : decode cc g.pc = .ok (.invokespecial index, 3)) (hf : cells + mc ≤ R.cells ∧ slots + ms ≤ R.slots) :
    vx_Run p l e R s m args below meth c H locs cells slots mc ms g rest (Qc (Value.ref b :: As).toArray) XC free := by
  obtain ⟨⟨⟨hrc, hrs, hfr, hlo, hws, hcw⟩, hcode, hini, hy, hlen, hl⟩, hx1, hx2⟩ := cw
  have hK : vx_Back l R p e below s args y 3 8 (PreOf R mc ms Pc) (PostOf Qc mc ms free) (vx_Post XC mc ms free) := vx_back (bytes := bytes) (maxL := maxL) (ret := none) hM hp.1 hrc hrs hfr hlo hws hcw (fun a' U hW => word_at hW (Or.inl (by first | rfl | simp [Cond.onTables, Cond.keeps, Cond.steady])) hini)
  obtain ⟨hx, hb, hml, ho, -⟩ := S
  have hPc := hp.2
  intro T hT X
  rcases vx_callIN X hx (bytes := bytes) (maxL := maxL) ho hx1 hl hx2 hcode hy hK hg (hsize.trans hml.symm) (a := b) (argsL := As) (rest := rest) (fun sig h => hn.trans (hlen sig h)) hstack hW (by rw [hb]; exact hdg)
    (fun vm₁ hW₁ => ⟨hf.1, hf.2, hPc (T.setVm vm₁) hT hW₁⟩) with ⟨v, vm₁, ⟨U', l2, c2, s2⟩, hW₁, X', ⟨g', mk, t, L, e1, e2, hq, h1, hL, h2, h3⟩, st⟩ | ⟨q, vm₁, ⟨U', l2, c2, s2⟩, hW₁, X', ⟨g', mk, t, L, E, ce, e1, e2, hq, hce, hcv, hcl, h1, hL, h2, h3⟩, st⟩
  · dsimp only [Pt.U, Pt.locs, Pt.cells, Pt.slots] at X' e1 e2 h1 h2 h3 st
    subst h1; subst h2; subst h3
    exact Or.inl ⟨v, (T.setVm vm₁).calling g' mk (Value.ref b :: As).toArray, t, U', L, hT, X', hL, e1, e2, hq, st⟩
  · dsimp only [Pt.U, Pt.locs, Pt.cells, Pt.slots] at X' e1 e2 h1 h2 h3 st hcl
    subst h1; subst h2; subst h3
    exact Or.inr ⟨q, (T.setVm vm₁).calling g' mk (Value.ref b :: As).toArray, t, U', L, E, ce, hT, X', hL, e1, e2, hq, hce, hcv, vx_cls hW₁ hcl, st⟩
end VXID
/-! ===== END ===== -/
/-! ===== BEGIN a method of a class above, found by the receiver, that may throw (follows va_callVU, va_runU of this kit) ===== -/
section
variable {p : Program} {l : Launch} {e : Env} {R : Room} {s : State} {m : MethodId} {args : Array Value} {below : List Frame} {meth : Method} {c : Code} {H : Heap} {locs : List Loc} {cells slots : Nat}
theorem vx_callVU {T : State} {locs : List Loc} {cells slots : Nat} (X : Stand p l e R s m args below meth c T locs cells slots) (hexec : p.tables.exec = Jvm.exec) {own C owner : String} {index : Nat} {x y : MethodName} {bytes : ByteArray} {maxL : Nat} {ret : Option FieldType}
    (hown : s.vm.findClass own = some m.cls) (hlink : (Cond.methodLink own index x).before args s = true) (hsame : (Cond.sameMethod x.cls owner x.name x.desc).before args s = true)
    (hd0 : va_Decl s ⟨owner, x.name, x.desc⟩) (howner : owner ≠ "java/lang/invoke/MethodHandle" ∧ owner ≠ "java/lang/invoke/VarHandle")
    (hsel : (Cond.selects C x y).before args s = true) (hinst : (Cond.instanceMethod y).before args s = true) (hcode : (Cond.code y bytes maxL ret).before args s = true)
    {W : Nat} {Pre : Pt → Array Value → Prop} {Post : Pt → Array Value → Option Value → Pt → Prop} {PostX : Pt → Array Value → Addr → Pt → Prop} (hK : vx_Back l R p e below s args y 3 W Pre Post PostX)
    {b : Addr} {cellB : Cell} (hcell : T.heap[b]? = some cellB) (hobj : cellB.vm.isStatics = false) (hcls : s.vm.findClass C = some cellB.cls)
    {g : JFrame} (hg : g.method = m) (hsize : g.locals.size = c.maxLocals) {argsL rest : List Value} (hlen : ∀ sig, parseMethodDescriptor x.desc = some sig → argsL.length = sig.parameters.length)
    (hstack : g.stack = argsL.reverse ++ .ref b :: rest) (hW : 2 * g.monitorRoom + (rest.map fun v => v.category).sum ≤ W) (hdg : decode c.code g.pc = .ok (.invokevirtual index, 3))
    (hpre : ∀ vm₁, s.WarmedH vm₁ → Pre ⟨T.setVm vm₁, locs, cells, slots⟩ (Value.ref b :: argsL).toArray) :
    (∃ (v : Option Value) (vm₁ : Vm) (B : Pt), s.WarmedH vm₁ ∧ Stand p l e R s m args below meth c B.U B.locs B.cells B.slots ∧ Post ⟨T.setVm vm₁, locs, cells, slots⟩ (Value.ref b :: argsL).toArray v B ∧
      ∀ target, Steps p.tables e below (B.U.setTop { g with pc := g.pc + 3, stack := v.toList ++ rest }) target → Steps p.tables e below (T.setTop g) target) ∨
    (∃ (q : Addr) (vm₁ : Vm) (B : Pt), s.WarmedH vm₁ ∧ Stand p l e R s m args below meth c B.U B.locs B.cells B.slots ∧ PostX ⟨T.setVm vm₁, locs, cells, slots⟩ (Value.ref b :: argsL).toArray q B ∧
      Steps p.tables e below (T.setTop g) ((B.U.setTop { g with stack := rest }).pushFrame (.throwing q))) := by
  obtain ⟨r0, r, hn, hrm, hstR, hsigR⟩ := hd0
  obtain ⟨cn, ck, r1, hcn, hck, hni, hf, hn1⟩ := Cond.sameMethod_found hsame
  cases hn.symm.trans hn1
  obtain ⟨mk, methM, hnamed, hmethM, -, habM⟩ := Cond.instanceMethod_spec hinst
  obtain ⟨c2, r2, m2, q1, q2, q3, q4, kP, hkP, hkPi⟩ := Cond.selects_spec hsel
  cases hcls.symm.trans q1
  cases hf.symm.trans q2
  cases hnamed.symm.trans q3
  have hselP : selectMethod e.platform s.vm cellB.cls r0 = .method mk := by rw [Launch.admits_selectMethod X.admits]; exact q4
  obtain ⟨vm₁, X₁, hstep₁⟩ := X.invokevirtualUp hexec hown hlink hsame howner hn hrm hstR (a := b) (cell := cellB) hcell
    (fun z h => by rw [h] at hobj; cases hobj) hselP hmethM habM hkP hkPi (g := g) hg (argsL := argsL) (rest := rest) (hlen _ hsigR) hstack hdg
  rcases hK m meth c ⟨T.setVm vm₁, locs, cells, slots⟩ { g with stack := rest } (.invokevirtual index) mk (Value.ref b :: argsL).toArray X₁ hg hsize hdg hW (X₁.named hnamed) (hpre vm₁ X₁.warmed) with ⟨v, B, X', hpost, hsteps⟩ | ⟨q, B, X', hpost, hsteps⟩
  · exact Or.inl ⟨v, vm₁, B, X₁.warmed, X', hpost, fun target h => hstep₁ _ fun acts => by rw [doInvoke_state]; exact hsteps.trans h⟩
  · exact Or.inr ⟨q, vm₁, B, X₁.warmed, X', hpost, hstep₁ _ fun acts => by rw [doInvoke_state]; exact hsteps⟩
theorem vx_runU {x y : MethodName} {bytes cc : ByteArray} {maxL nL mc ms n index : Nat} {ret : Option FieldType} {ws : List Cond} {rm : Room} {Pc : Array Value → State → Prop} {Qc : Array Value → State → Outcome → State → Prop} {XC : String → State → State → Prop} {free : Addr → Prop} {Ts : List Cond} {own C owner : String} {b : Addr} {As rest : List Value} {g : JFrame}
    (S : CallFix p m c cc nL s args Ts own) (hM : vx_Met l y ws rm Pc Qc XC mc ms free) (cw : va_CU R s args own C owner index x y bytes maxL ret ws rm mc ms n) (hp : PreV s H C b Pc As)
    (hg : g.method = m) (hn : As.length = n) (hsize : g.locals.size = nL) (hstack : g.stack = As.reverse ++ .ref b :: rest) (hW : 2 * g.monitorRoom + (rest.map fun v => v.category).sum ≤ 8) (hdg : decode cc g.pc = .ok (.invokevirtual index, 3)) (hf : cells + mc ≤ R.cells ∧ slots + ms ≤ R.slots) :
    vx_Run p l e R s m args below meth c H locs cells slots mc ms g rest (Qc (Value.ref b :: As).toArray) XC free := by
  obtain ⟨hrc, hrs, hfr, hlo, hws, hcw⟩ := cw.back
  have hini := cw.init
  have hK : vx_Back l R p e below s args y 3 8 (PreOf R mc ms Pc) (PostOf Qc mc ms free) (vx_Post XC mc ms free) := vx_back (bytes := bytes) (maxL := maxL) (ret := ret) hM hp.1 hrc hrs hfr hlo hws hcw (fun a' U hW => word_at hW (Or.inl (by first | rfl | simp [Cond.onTables, Cond.keeps, Cond.steady])) hini)
  obtain ⟨hx, hb, hml, ho, -⟩ := S
  obtain ⟨-, ⟨cellB, hcB, hoB, hclB⟩, hPc⟩ := hp
  intro T hT X
  rcases vx_callVU X hx (C := C) (owner := owner) (bytes := bytes) (maxL := maxL) (ret := ret) ho cw.link cw.same cw.decl cw.notMH cw.sel cw.inst cw.code hK (by rw [hT]; exact hcB) hoB hclB hg (hsize.trans hml.symm) (argsL := As) (rest := rest) (fun sig h => hn.trans (cw.len sig h)) hstack hW (by rw [hb]; exact hdg)
    (fun vm₁ hW₁ => ⟨hf.1, hf.2, hPc (T.setVm vm₁) hT hW₁⟩) with ⟨v, vm₁, ⟨U', l2, c2, s2⟩, hW₁, X', ⟨g', mk, t, L, e1, e2, hq, h1, hL, h2, h3⟩, st⟩ | ⟨q, vm₁, ⟨U', l2, c2, s2⟩, hW₁, X', ⟨g', mk, t, L, E, ce, e1, e2, hq, hce, hcv, hcl, h1, hL, h2, h3⟩, st⟩
  · dsimp only [Pt.U, Pt.locs, Pt.cells, Pt.slots] at X' e1 e2 h1 h2 h3 st
    subst h1; subst h2; subst h3
    exact Or.inl ⟨v, (T.setVm vm₁).calling g' mk (Value.ref b :: As).toArray, t, U', L, hT, X', hL, e1, e2, hq, st⟩
  · dsimp only [Pt.U, Pt.locs, Pt.cells, Pt.slots] at X' e1 e2 h1 h2 h3 st hcl
    subst h1; subst h2; subst h3
    exact Or.inr ⟨q, (T.setVm vm₁).calling g' mk (Value.ref b :: As).toArray, t, U', L, E, ce, hT, X', hL, e1, e2, hq, hce, hcv, vx_cls hW₁ hcl, st⟩
end
/-! ===== END ===== -/
/-! ===== BEGIN super.m(..) that may throw (follows va_callSU, va_runSU) ===== -/
section
variable {p : Program} {l : Launch} {e : Env} {R : Room} {s : State} {m : MethodId} {args : Array Value} {below : List Frame} {meth : Method} {c : Code} {H : Heap} {locs : List Loc} {cells slots : Nat}
theorem vx_callSU {T : State} {locs : List Loc} {cells slots : Nat} (X : Stand p l e R s m args below meth c T locs cells slots) (hexec : p.tables.exec = Jvm.exec) {own : String} {index : Nat} {y : MethodName} {bytes : ByteArray} {maxL : Nat} {ret : Option FieldType}
    (hown : s.vm.findClass own = some m.cls) (hlink : (Cond.methodLink own index y).before args s = true) (hsame : (Cond.sameMethod y.cls y.cls y.name y.desc).before args s = true) (hsup : (Cond.superclass own y.cls).before args s = true)
    (hinst : (Cond.instanceMethod y).before args s = true) (hcode : (Cond.code y bytes maxL ret).before args s = true) (hno : y.name ≠ "<init>")
    {W : Nat} {Pre : Pt → Array Value → Prop} {Post : Pt → Array Value → Option Value → Pt → Prop} {PostX : Pt → Array Value → Addr → Pt → Prop} (hK : vx_Back l R p e below s args y 3 W Pre Post PostX)
    {b : Addr} {cellB : Cell} {kB : Class} (hcell : T.heap[b]? = some cellB) (hobj : cellB.vm.isStatics = false) (hkB : s.vm.classes[cellB.cls]? = some kB)
    {g : JFrame} (hg : g.method = m) (hsize : g.locals.size = c.maxLocals) {argsL rest : List Value} (hlen : ∀ sig, parseMethodDescriptor y.desc = some sig → argsL.length = sig.parameters.length)
    (hstack : g.stack = argsL.reverse ++ .ref b :: rest) (hW : 2 * g.monitorRoom + (rest.map fun v => v.category).sum ≤ W) (hdg : decode c.code g.pc = .ok (.invokespecial index, 3))
    (hpre : ∀ vm₁, s.WarmedH vm₁ → Pre ⟨T.setVm vm₁, locs, cells, slots⟩ (Value.ref b :: argsL).toArray) :
    (∃ (v : Option Value) (vm₁ : Vm) (B : Pt), s.WarmedH vm₁ ∧ Stand p l e R s m args below meth c B.U B.locs B.cells B.slots ∧ Post ⟨T.setVm vm₁, locs, cells, slots⟩ (Value.ref b :: argsL).toArray v B ∧
      ∀ target, Steps p.tables e below (B.U.setTop { g with pc := g.pc + 3, stack := v.toList ++ rest }) target → Steps p.tables e below (T.setTop g) target) ∨
    (∃ (q : Addr) (vm₁ : Vm) (B : Pt), s.WarmedH vm₁ ∧ Stand p l e R s m args below meth c B.U B.locs B.cells B.slots ∧ PostX ⟨T.setVm vm₁, locs, cells, slots⟩ (Value.ref b :: argsL).toArray q B ∧
      Steps p.tables e below (T.setTop g) ((B.U.setTop { g with stack := rest }).pushFrame (.throwing q))) := by
  obtain ⟨mk, methM, hnamed, hmethM, hstM, habM⟩ := Cond.instanceMethod_spec hinst
  obtain ⟨methM', cM, hmethM', -, -, -, -, -, -, hsigM⟩ := Cond.code_spec hnamed hcode
  cases hmethM.symm.trans hmethM'
  obtain ⟨ps, dk, kp, hps, hdk, hkp, hsuper, -, -, hnid⟩ := Cond.superclass_spec hown hsup
  have hn : s.methodNamed? ⟨y.cls, y.name, y.desc⟩ = some mk := hnamed
  have hpm : ps = mk.cls := Option.some.inj (hps.symm.trans (findClass_of_methodNamed hnamed))
  have hsub : s.vm.isSubclass ps mk.cls = true := by rw [hpm]; simp [Vm.isSubclass, Vm.isSubclassAux]
  obtain ⟨vm₁, X₁, hstep₁⟩ := X.invokespecialUp hexec hown hlink hsame hn hmethM hstM habM hno hdk hnid hps hsuper hsub (a := b) (cell := cellB) hcell
    (fun z h => by rw [h] at hobj; cases hobj) hkB (g := g) hg (argsL := argsL) (rest := rest) (hlen _ hsigM) hstack hdg
  rcases hK m meth c ⟨T.setVm vm₁, locs, cells, slots⟩ { g with stack := rest } (.invokespecial index) mk (Value.ref b :: argsL).toArray X₁ hg hsize hdg hW (X₁.named hnamed) (hpre vm₁ X₁.warmed) with ⟨v, B, X', hpost, hsteps⟩ | ⟨q, B, X', hpost, hsteps⟩
  · exact Or.inl ⟨v, vm₁, B, X₁.warmed, X', hpost, fun target h => hstep₁ _ (by rw [doInvoke_state]; exact hsteps.trans h)⟩
  · exact Or.inr ⟨q, vm₁, B, X₁.warmed, X', hpost, hstep₁ _ (by rw [doInvoke_state]; exact hsteps)⟩
theorem vx_runSU {y : MethodName} {bytes cc : ByteArray} {maxL nL mc ms n index : Nat} {ret : Option FieldType} {ws : List Cond} {rm : Room} {Pc : Array Value → State → Prop} {Qc : Array Value → State → Outcome → State → Prop} {XC : String → State → State → Prop} {free : Addr → Prop} {Ts : List Cond} {own C : String} {cC : ClassId} {b : Addr} {As rest : List Value} {g : JFrame}
    (hat : ClassAt s C cC) (S : CallFix p m c cc nL s args Ts own) (hM : vx_Met l y ws rm Pc Qc XC mc ms free) (cw : va_CS R s args own index y bytes maxL ret ws rm mc ms n) (hp : PreV s H C b Pc As)
    (hg : g.method = m) (hn : As.length = n) (hsize : g.locals.size = nL) (hstack : g.stack = As.reverse ++ .ref b :: rest) (hW : 2 * g.monitorRoom + (rest.map fun v => v.category).sum ≤ 8) (hdg : decode cc g.pc = .ok (.invokespecial index, 3)) (hf : cells + mc ≤ R.cells ∧ slots + ms ≤ R.slots) :
    vx_Run p l e R s m args below meth c H locs cells slots mc ms g rest (Qc (Value.ref b :: As).toArray) XC free := by
  obtain ⟨⟨hrc, hrs, hfr, hlo, hws, hcw⟩, hl1, hl2, hl3, hl4, hini, hcode, hno, hlen⟩ := cw
  have hK : vx_Back l R p e below s args y 3 8 (PreOf R mc ms Pc) (PostOf Qc mc ms free) (vx_Post XC mc ms free) := vx_back (bytes := bytes) (maxL := maxL) (ret := ret) hM hp.1 hrc hrs hfr hlo hws hcw (fun a' U hW => word_at hW (Or.inl (by first | rfl | simp [Cond.onTables, Cond.keeps, Cond.steady])) hini)
  obtain ⟨hx, hb, hml, ho, -⟩ := S
  obtain ⟨-, ⟨cellB, hcB, hoB, hclB⟩, hPc⟩ := hp
  obtain ⟨hfc, kB, hkB, -⟩ := hat
  cases hfc.symm.trans hclB
  intro T hT X
  rcases vx_callSU X hx (bytes := bytes) (maxL := maxL) (ret := ret) ho hl1 hl2 hl3 hl4 hcode hno hK (by rw [hT]; exact hcB) hoB hkB hg (hsize.trans hml.symm) (argsL := As) (rest := rest) (fun sig h => hn.trans (hlen sig h)) hstack hW (by rw [hb]; exact hdg)
    (fun vm₁ hW₁ => ⟨hf.1, hf.2, hPc (T.setVm vm₁) hT hW₁⟩) with ⟨v, vm₁, ⟨U', l2, c2, s2⟩, hW₁, X', ⟨g', mk, t, L, e1, e2, hq, h1, hL, h2, h3⟩, st⟩ | ⟨q, vm₁, ⟨U', l2, c2, s2⟩, hW₁, X', ⟨g', mk, t, L, E, ce, e1, e2, hq, hce, hcv, hcl, h1, hL, h2, h3⟩, st⟩
  · dsimp only [Pt.U, Pt.locs, Pt.cells, Pt.slots] at X' e1 e2 h1 h2 h3 st
    subst h1; subst h2; subst h3
    exact Or.inl ⟨v, (T.setVm vm₁).calling g' mk (Value.ref b :: As).toArray, t, U', L, hT, X', hL, e1, e2, hq, st⟩
  · dsimp only [Pt.U, Pt.locs, Pt.cells, Pt.slots] at X' e1 e2 h1 h2 h3 st hcl
    subst h1; subst h2; subst h3
    exact Or.inr ⟨q, (T.setVm vm₁).calling g' mk (Value.ref b :: As).toArray, t, U', L, E, ce, hT, X', hL, e1, e2, hq, hce, hcv, vx_cls hW₁ hcl, st⟩
end
/-! ===== END ===== -/
/-! ===== BEGIN a private method of a nest mate that may throw (follows va_callVN, va_callSN, va_runVN, va_runSN) ===== -/
section
variable {p : Program} {l : Launch} {e : Env} {R : Room} {s : State} {m : MethodId} {args : Array Value} {below : List Frame} {meth : Method} {c : Code} {H : Heap} {locs : List Loc} {cells slots : Nat}
variable {T : State}
theorem vx_callVN (X : Stand p l e R s m args below meth c T locs cells slots) (hexec : p.tables.exec = Jvm.exec) {own C : String} {index : Nat} {host : String} {y : MethodName} {bytes : ByteArray} {maxL : Nat} {ret : Option FieldType}
    (hown : s.vm.findClass own = some m.cls) (hlink : (Cond.methodLinkNest own index y host).before args s = true) (hinst : (Cond.instanceMethod y).before args s = true) (hsel : (Cond.selects C y y).before args s = true)
    (hcode : (Cond.code y bytes maxL ret).before args s = true) (hy : y.cls ≠ "java/lang/invoke/MethodHandle" ∧ y.cls ≠ "java/lang/invoke/VarHandle")
    {W : Nat} {Pre : Pt → Array Value → Prop} {Post : Pt → Array Value → Option Value → Pt → Prop} {PostX : Pt → Array Value → Addr → Pt → Prop} (hK : vx_Back l R p e below s args y 3 W Pre Post PostX)
    {b : Addr} {cellB : Cell} (hcell : T.heap[b]? = some cellB) (hobj : cellB.vm.isStatics = false) (hcls : s.vm.findClass C = some cellB.cls)
    {g : JFrame} (hg : g.method = m) (hsize : g.locals.size = c.maxLocals) {argsL rest : List Value} (hlen : ∀ sig, parseMethodDescriptor y.desc = some sig → argsL.length = sig.parameters.length)
    (hstack : g.stack = argsL.reverse ++ .ref b :: rest) (hW : 2 * g.monitorRoom + (rest.map fun v => v.category).sum ≤ W) (hdg : decode c.code g.pc = .ok (.invokevirtual index, 3))
    (hpre : ∀ vm₁, s.WarmedH vm₁ → Pre ⟨T.setVm vm₁, locs, cells, slots⟩ (Value.ref b :: argsL).toArray) :
    (∃ (v : Option Value) (vm₁ : Vm) (B : Pt), s.WarmedH vm₁ ∧ Stand p l e R s m args below meth c B.U B.locs B.cells B.slots ∧ Post ⟨T.setVm vm₁, locs, cells, slots⟩ (Value.ref b :: argsL).toArray v B ∧
      ∀ target, Steps p.tables e below (B.U.setTop { g with pc := g.pc + 3, stack := v.toList ++ rest }) target → Steps p.tables e below (T.setTop g) target) ∨
    (∃ (q : Addr) (vm₁ : Vm) (B : Pt), s.WarmedH vm₁ ∧ Stand p l e R s m args below meth c B.U B.locs B.cells B.slots ∧ PostX ⟨T.setVm vm₁, locs, cells, slots⟩ (Value.ref b :: argsL).toArray q B ∧
      Steps p.tables e below (T.setTop g) ((B.U.setTop { g with stack := rest }).pushFrame (.throwing q))) := by
  obtain ⟨mk, methM, hnamed, hmethM, hstM, habM⟩ := Cond.instanceMethod_spec hinst
  obtain ⟨methM', cM, hmethM', -, -, -, -, -, -, hsigM⟩ := Cond.code_spec hnamed hcode
  cases hmethM.symm.trans hmethM'
  obtain ⟨c2, r2, m2, q1, q2, q3, q4, kP, hkP, hkPi⟩ := Cond.selects_spec hsel
  cases hcls.symm.trans q1
  cases (State.methodFound?_of_named hnamed hy).symm.trans q2
  cases hnamed.symm.trans q3
  have hselP : selectMethod e.platform s.vm cellB.cls mk = .method mk := by rw [Launch.admits_selectMethod X.admits]; exact q4
  obtain ⟨vm₁, X₁, hstep₁⟩ := X.invokevirtualNest hexec hown hlink hnamed hmethM hstM hkP hkPi hy (a := b) (cell := cellB) hcell
    (fun z h => by rw [h] at hobj; cases hobj) hselP hmethM habM hkP hkPi (g := g) hg (argsL := argsL) (rest := rest) (hlen _ hsigM) hstack hdg
  rcases hK m meth c ⟨T.setVm vm₁, locs, cells, slots⟩ { g with stack := rest } (.invokevirtual index) mk (Value.ref b :: argsL).toArray X₁ hg hsize hdg hW (X₁.named hnamed) (hpre vm₁ X₁.warmed) with ⟨v, B, X', hpost, hsteps⟩ | ⟨q, B, X', hpost, hsteps⟩
  · exact Or.inl ⟨v, vm₁, B, X₁.warmed, X', hpost, fun target h => hstep₁ _ fun acts => by rw [doInvoke_state]; exact hsteps.trans h⟩
  · exact Or.inr ⟨q, vm₁, B, X₁.warmed, X', hpost, hstep₁ _ fun acts => by rw [doInvoke_state]; exact hsteps⟩
theorem vx_callSN (X : Stand p l e R s m args below meth c T locs cells slots) (hexec : p.tables.exec = Jvm.exec) {own : String} {index : Nat} {host : String} {y : MethodName} {bytes : ByteArray} {maxL : Nat} {ret : Option FieldType}
    (hown : s.vm.findClass own = some m.cls) (hlink : (Cond.methodLinkNest own index y host).before args s = true) (hstat : (Cond.static y).before args s = true) (hinit : (Cond.initialized y.cls).before args s = true)
    (hcode : (Cond.code y bytes maxL ret).before args s = true) (hy : y.cls ≠ "java/lang/invoke/MethodHandle" ∧ y.cls ≠ "java/lang/invoke/VarHandle")
    {W : Nat} {Pre : Pt → Array Value → Prop} {Post : Pt → Array Value → Option Value → Pt → Prop} {PostX : Pt → Array Value → Addr → Pt → Prop} (hK : vx_Back l R p e below s args y 3 W Pre Post PostX)
    {g : JFrame} (hg : g.method = m) (hsize : g.locals.size = c.maxLocals) {argsL rest : List Value} (hlen : ∀ sig, parseMethodDescriptor y.desc = some sig → argsL.length = sig.parameters.length)
    (hstack : g.stack = argsL.reverse ++ rest) (hW : 2 * g.monitorRoom + (rest.map fun v => v.category).sum ≤ W) (hdg : decode c.code g.pc = .ok (.invokestatic index, 3))
    (hpre : ∀ vm₁, s.WarmedH vm₁ → Pre ⟨T.setVm vm₁, locs, cells, slots⟩ argsL.toArray) :
    (∃ (v : Option Value) (vm₁ : Vm) (B : Pt), s.WarmedH vm₁ ∧ Stand p l e R s m args below meth c B.U B.locs B.cells B.slots ∧ Post ⟨T.setVm vm₁, locs, cells, slots⟩ argsL.toArray v B ∧
      ∀ target, Steps p.tables e below (B.U.setTop { g with pc := g.pc + 3, stack := v.toList ++ rest }) target → Steps p.tables e below (T.setTop g) target) ∨
    (∃ (q : Addr) (vm₁ : Vm) (B : Pt), s.WarmedH vm₁ ∧ Stand p l e R s m args below meth c B.U B.locs B.cells B.slots ∧ PostX ⟨T.setVm vm₁, locs, cells, slots⟩ argsL.toArray q B ∧
      Steps p.tables e below (T.setTop g) ((B.U.setTop { g with stack := rest }).pushFrame (.throwing q))) := by
  obtain ⟨mk, hnamed⟩ := Cond.code_named hcode
  obtain ⟨methM, cM, hmethM, -, -, -, -, -, -, hsigM⟩ := Cond.code_spec hnamed hcode
  have hstatic : methM.isStatic = true := Cond.static_spec hnamed hmethM hstat
  obtain ⟨kP, hkP, -⟩ := className_of_methodNamed hnamed
  have hinitP : kP.init = .initialized := Cond.initialized_spec (findClass_of_methodNamed hnamed) hkP hinit
  obtain ⟨vm₁, X₁, hstep₁⟩ := X.invokestaticNest hexec hown hlink hnamed hmethM hstatic hkP hinitP hy (g := g) hg (argsL := argsL) (rest := rest) (hlen _ hsigM) hstack hdg
  rcases hK m meth c ⟨T.setVm vm₁, locs, cells, slots⟩ { g with stack := rest } (.invokestatic index) mk argsL.toArray X₁ hg hsize hdg hW (X₁.named hnamed) (hpre vm₁ X₁.warmed) with ⟨v, B, X', hpost, hsteps⟩ | ⟨q, B, X', hpost, hsteps⟩
  · exact Or.inl ⟨v, vm₁, B, X₁.warmed, X', hpost, fun target h => hstep₁ _ fun acts => by rw [doInvoke_state]; exact hsteps.trans h⟩
  · exact Or.inr ⟨q, vm₁, B, X₁.warmed, X', hpost, hstep₁ _ fun acts => by rw [doInvoke_state]; exact hsteps⟩
theorem vx_runVN {y : MethodName} {bytes cc : ByteArray} {maxL nL mc ms n index : Nat} {ret : Option FieldType} {ws : List Cond} {rm : Room} {Pc : Array Value → State → Prop} {Qc : Array Value → State → Outcome → State → Prop} {XC : String → State → State → Prop} {free : Addr → Prop} {Ts : List Cond} {own C host : String} {b : Addr} {As rest : List Value} {g : JFrame}
    (S : CallFix p m c cc nL s args Ts own) (hM : vx_Met l y ws rm Pc Qc XC mc ms free) (cw : va_CN R s args own index y host bytes maxL ret ws rm mc ms n ∧ (Cond.instanceMethod y).before args s = true ∧ (Cond.selects C y y).before args s = true) (hp : PreV s H C b Pc As)
    (hg : g.method = m) (hn : As.length = n) (hsize : g.locals.size = nL) (hstack : g.stack = As.reverse ++ .ref b :: rest) (hW : 2 * g.monitorRoom + (rest.map fun v => v.category).sum ≤ 8) (hdg : decode cc g.pc = .ok (.invokevirtual index, 3)) (hf : cells + mc ≤ R.cells ∧ slots + ms ≤ R.slots) :
    vx_Run p l e R s m args below meth c H locs cells slots mc ms g rest (Qc (Value.ref b :: As).toArray) XC free := by
  obtain ⟨⟨⟨hrc, hrs, hfr, hlo, hws, hcw⟩, hcode, hini, hy, hlen, hl⟩, hx1, hx2⟩ := cw
  have hK : vx_Back l R p e below s args y 3 8 (PreOf R mc ms Pc) (PostOf Qc mc ms free) (vx_Post XC mc ms free) := vx_back (bytes := bytes) (maxL := maxL) (ret := ret) hM hp.1 hrc hrs hfr hlo hws hcw (fun a' U hW => word_at hW (Or.inl (by first | rfl | simp [Cond.onTables, Cond.keeps, Cond.steady])) hini)
  obtain ⟨hx, hb, hml, ho, -⟩ := S
  obtain ⟨-, ⟨cellB, hcB, hoB, hclB⟩, hPc⟩ := hp
  intro T hT X
  rcases vx_callVN X hx (C := C) (bytes := bytes) (maxL := maxL) (ret := ret) ho hl hx1 hx2 hcode hy hK (by rw [hT]; exact hcB) hoB hclB hg (hsize.trans hml.symm) (argsL := As) (rest := rest) (fun sig h => hn.trans (hlen sig h)) hstack hW (by rw [hb]; exact hdg)
    (fun vm₁ hW₁ => ⟨hf.1, hf.2, hPc (T.setVm vm₁) hT hW₁⟩) with ⟨v, vm₁, ⟨U', l2, c2, s2⟩, hW₁, X', ⟨g', mk, t, L, e1, e2, hq, h1, hL, h2, h3⟩, st⟩ | ⟨q, vm₁, ⟨U', l2, c2, s2⟩, hW₁, X', ⟨g', mk, t, L, E, ce, e1, e2, hq, hce, hcv, hcl, h1, hL, h2, h3⟩, st⟩
  · dsimp only [Pt.U, Pt.locs, Pt.cells, Pt.slots] at X' e1 e2 h1 h2 h3 st
    subst h1; subst h2; subst h3
    exact Or.inl ⟨v, (T.setVm vm₁).calling g' mk (Value.ref b :: As).toArray, t, U', L, hT, X', hL, e1, e2, hq, st⟩
  · dsimp only [Pt.U, Pt.locs, Pt.cells, Pt.slots] at X' e1 e2 h1 h2 h3 st hcl
    subst h1; subst h2; subst h3
    exact Or.inr ⟨q, (T.setVm vm₁).calling g' mk (Value.ref b :: As).toArray, t, U', L, E, ce, hT, X', hL, e1, e2, hq, hce, hcv, vx_cls hW₁ hcl, st⟩
theorem vx_runSN {y : MethodName} {bytes cc : ByteArray} {maxL nL mc ms n index : Nat} {ret : Option FieldType} {ws : List Cond} {rm : Room} {Pc : Array Value → State → Prop} {Qc : Array Value → State → Outcome → State → Prop} {XC : String → State → State → Prop} {free : Addr → Prop} {Ts : List Cond} {own host : String} {As rest : List Value} {g : JFrame}
    (S : CallFix p m c cc nL s args Ts own) (hM : vx_Met l y ws rm Pc Qc XC mc ms free) (cw : va_CN R s args own index y host bytes maxL ret ws rm mc ms n ∧ (Cond.static y).before args s = true ∧ True) (hp : PreS s H Pc As)
    (hg : g.method = m) (hn : As.length = n) (hsize : g.locals.size = nL) (hstack : g.stack = As.reverse ++ rest) (hW : 2 * g.monitorRoom + (rest.map fun v => v.category).sum ≤ 8) (hdg : decode cc g.pc = .ok (.invokestatic index, 3)) (hf : cells + mc ≤ R.cells ∧ slots + ms ≤ R.slots) :
    vx_Run p l e R s m args below meth c H locs cells slots mc ms g rest (Qc As.toArray) XC free := by
  obtain ⟨⟨⟨hrc, hrs, hfr, hlo, hws, hcw⟩, hcode, hini, hy, hlen, hl⟩, hx1, hx2⟩ := cw
  have hK : vx_Back l R p e below s args y 3 8 (PreOf R mc ms Pc) (PostOf Qc mc ms free) (vx_Post XC mc ms free) := vx_back (bytes := bytes) (maxL := maxL) (ret := ret) hM hp.1 hrc hrs hfr hlo hws hcw (fun a' U hW => word_at hW (Or.inl (by first | rfl | simp [Cond.onTables, Cond.keeps, Cond.steady])) hini)
  obtain ⟨hx, hb, hml, ho, -⟩ := S
  have hPc := hp.2
  intro T hT X
  rcases vx_callSN X hx (bytes := bytes) (maxL := maxL) (ret := ret) ho hl hx1 hini hcode hy hK hg (hsize.trans hml.symm) (argsL := As) (rest := rest) (fun sig h => hn.trans (hlen sig h)) hstack hW (by rw [hb]; exact hdg)
    (fun vm₁ hW₁ => ⟨hf.1, hf.2, hPc (T.setVm vm₁) hT hW₁⟩) with ⟨v, vm₁, ⟨U', l2, c2, s2⟩, hW₁, X', ⟨g', mk, t, L, e1, e2, hq, h1, hL, h2, h3⟩, st⟩ | ⟨q, vm₁, ⟨U', l2, c2, s2⟩, hW₁, X', ⟨g', mk, t, L, E, ce, e1, e2, hq, hce, hcv, hcl, h1, hL, h2, h3⟩, st⟩
  · dsimp only [Pt.U, Pt.locs, Pt.cells, Pt.slots] at X' e1 e2 h1 h2 h3 st
    subst h1; subst h2; subst h3
    exact Or.inl ⟨v, (T.setVm vm₁).calling g' mk As.toArray, t, U', L, hT, X', hL, e1, e2, hq, st⟩
  · dsimp only [Pt.U, Pt.locs, Pt.cells, Pt.slots] at X' e1 e2 h1 h2 h3 st hcl
    subst h1; subst h2; subst h3
    exact Or.inr ⟨q, (T.setVm vm₁).calling g' mk As.toArray, t, U', L, E, ce, hT, X', hL, e1, e2, hq, hce, hcv, vx_cls hW₁ hcl, st⟩
end
/-! ===== END ===== -/
/-! ===== BEGIN calls by an interface of methods that may throw (vx_callIF, vx_runF follow va_callIF, va_runF of this kit) ===== -/
section
variable {p : Program} {l : Launch} {e : Env} {R : Room} {s : State} {m : MethodId} {args : Array Value} {below : List Frame} {meth : Method} {c : Code} {H : Heap} {locs : List Loc} {cells slots : Nat} {Q : State → Prop}
variable {mc ms : Nat} {free : Addr → Prop} {A0 A1 : Nat → Prop} {H0 : Heap} {a : Array Value} {pc : Nat} {ls : Array Slot} {st0 rest : List Value}
def vx_Run5 (p : Program) (l : Launch) (e : Env) (R : Room) (s : State) (m : MethodId) (args : Array Value) (below : List Frame) (meth : Method) (c : Code) (H : Heap) (locs : List Loc) (cells slots mc ms : Nat) (g : JFrame) (rest : List Value) (Qa : State → Outcome → State → Prop) (XC : String → State → State → Prop) (free : Addr → Prop) : Prop :=
  ∀ T : State, T.heap = H → Stand p l e R s m args below meth c T locs cells slots →
    (∃ (v : Option Value) (st₀ t T' : State) (L : List Loc), st₀.heap = H ∧ Stand p l e R s m args below meth c T' (locs ++ L) (cells + mc) (slots + ms) ∧ (∀ q ∈ L, free q.base) ∧ T'.heap = t.heap ∧ T'.vm = t.vm ∧ Qa st₀ (.returned v) t ∧
      Goes p e below T g T' { g with pc := g.pc + 5, stack := v.toList ++ rest }) ∨
    (∃ (q : Addr) (st₀ t T' : State) (L : List Loc) (E : String) (ce : Cell), st₀.heap = H ∧ Stand p l e R s m args below meth c T' (locs ++ L) (cells + mc) (slots + ms) ∧ (∀ z ∈ L, free z.base) ∧ T'.heap = t.heap ∧ T'.vm = t.vm ∧ XC E st₀ t ∧ t.heap[q]? = some ce ∧ ce.vm = .none ∧ s.vm.findClass E = some ce.cls ∧
      Steps p.tables e below (T.setTop g) ((T'.setTop { g with stack := rest }).pushFrame (.throwing q)))
theorem vx_callIF {T : State} (X : Stand p l e R s m args below meth c T locs cells slots) (hexec : p.tables.exec = Jvm.exec) {own C : String} {index count : Nat} {x y : MethodName} {bytes : ByteArray} {maxL : Nat} {ret : Option FieldType}
    (hown : s.vm.findClass own = some m.cls) (hlink : (Cond.methodLink own index x).before args s = true) (hdecl : (Cond.declares x).before args s = true) (hface : (Cond.interfaceMethod x.cls x.cls x.name x.desc).before args s = true)
    (hsel : (Cond.selects C x y).before args s = true) (hinst : (Cond.instanceMethod y).before args s = true) (hpub : (Cond.publicMethod y).before args s = true) (hunh : (Cond.unhidden C x.name x.desc).before args s = true)
    (hcast : (Cond.castable C x.cls).before args s = true) (hcode : (Cond.code y bytes maxL ret).before args s = true) (hx : x.cls ≠ "java/lang/invoke/MethodHandle" ∧ x.cls ≠ "java/lang/invoke/VarHandle")
    {W9 : Nat} {Pre : Pt → Array Value → Prop} {Post : Pt → Array Value → Option Value → Pt → Prop} {PostX : Pt → Array Value → Addr → Pt → Prop} (hK : vx_Back l R p e below s args y 5 W9 Pre Post PostX)
    {b : Addr} {cellB : Cell} {kB : Class} (hcell : T.heap[b]? = some cellB) (hobj : cellB.vm.isStatics = false) (hcls : s.vm.findClass C = some cellB.cls) (hkB : s.vm.classes[cellB.cls]? = some kB)
    {g : JFrame} (hg : g.method = m) (hsize : g.locals.size = c.maxLocals) {argsL rest : List Value} (hlen : ∀ sig, parseMethodDescriptor x.desc = some sig → argsL.length = sig.parameters.length)
    (hstack : g.stack = argsL.reverse ++ .ref b :: rest) (hW : 2 * g.monitorRoom + (rest.map fun v => v.category).sum ≤ W9) (hdg : decode c.code g.pc = .ok (.invokeinterface index count, 5))
    (hpre : ∀ vm₁, s.WarmedH vm₁ → Pre ⟨T.setVm vm₁, locs, cells, slots⟩ (Value.ref b :: argsL).toArray) :
    (∃ (v : Option Value) (vm₁ : Vm) (B : Pt), s.WarmedH vm₁ ∧ Stand p l e R s m args below meth c B.U B.locs B.cells B.slots ∧ Post ⟨T.setVm vm₁, locs, cells, slots⟩ (Value.ref b :: argsL).toArray v B ∧
      ∀ target, Steps p.tables e below (B.U.setTop { g with pc := g.pc + 5, stack := v.toList ++ rest }) target → Steps p.tables e below (T.setTop g) target) ∨
    (∃ (q : Addr) (vm₁ : Vm) (B : Pt), s.WarmedH vm₁ ∧ Stand p l e R s m args below meth c B.U B.locs B.cells B.slots ∧ PostX ⟨T.setVm vm₁, locs, cells, slots⟩ (Value.ref b :: argsL).toArray q B ∧
      Steps p.tables e below (T.setTop g) ((B.U.setTop { g with stack := rest }).pushFrame (.throwing q))) := by
  obtain ⟨r0, r, hn, hrm, hstR, hsigR⟩ := Cond.declares_spec hdecl
  obtain ⟨cL, kL, r1, hcL, hkL, hiL, hfoundL, hn1⟩ := Cond.interfaceMethod_spec hface
  cases hn.symm.trans hn1
  have hr0cls : r0.cls = cL := Option.some.inj ((findClass_of_methodNamed hn).symm.trans hcL)
  obtain ⟨hnameR, hdescR⟩ := name_of_methodNamed hn hrm
  obtain ⟨mk, methM, hnamed, hmethM, -, habM⟩ := Cond.instanceMethod_spec hinst
  obtain ⟨c2, r2, m2, q1, q2, q3, q4, -⟩ := Cond.selects_spec hsel
  cases hcls.symm.trans q1
  cases hfoundL.symm.trans q2
  cases hnamed.symm.trans q3
  have hselP : selectMethod e.platform s.vm cellB.cls r0 = .method mk := by rw [Launch.admits_selectMethod X.admits]; exact q4
  have hpubM : hasFlag methM.accessFlags Acc.public_ = true := Cond.publicMethod_spec hnamed hmethM hpub
  have hway : ((cellB.cls :: s.vm.superclasses cellB.cls).any fun k => (declaredIn s.vm r.name r.desc k).any fun (_, z) => z.isPrivate || z.isStatic) = false := by
    rw [hnameR, hdescR]; exact Cond.unhidden_spec hcls hunh
  obtain ⟨c3, t3, w1, w2, w3⟩ := Cond.castable_spec hcast
  cases hcls.symm.trans w1
  cases hcL.symm.trans w2
  obtain ⟨vm₁, X₁, hstep₁⟩ := X.invokeinterface hexec hown hlink hn hrm hstR (by rw [hr0cls]; exact hkL) hiL hx (a := b) (cell := cellB) (kcell := kB) hcell
    (fun z h => by rw [h] at hobj; cases hobj) hkB (by rw [hr0cls]; exact w3) hselP hmethM hway hpubM habM (g := g) hg (argsL := argsL) (rest := rest) (hlen _ hsigR) hstack hdg
  rcases hK m meth c ⟨T.setVm vm₁, locs, cells, slots⟩ { g with stack := rest } (.invokeinterface index count) mk (Value.ref b :: argsL).toArray X₁ hg hsize hdg hW (X₁.named hnamed) (hpre vm₁ X₁.warmed) with ⟨v, B, X', hpost, hsteps⟩ | ⟨q, B, X', hpost, hsteps⟩
  · exact Or.inl ⟨v, vm₁, B, X₁.warmed, X', hpost, fun target h => hstep₁ _ fun acts => by rw [doInvoke_state]; exact hsteps.trans h⟩
  · exact Or.inr ⟨q, vm₁, B, X₁.warmed, X', hpost, hstep₁ _ fun acts => by rw [doInvoke_state]; exact hsteps⟩
theorem vx_runF {x y : MethodName} {bytes cc : ByteArray} {maxL nL mc ms n index count : Nat} {ret : Option FieldType} {ws : List Cond} {rm : Room} {Pc : Array Value → State → Prop} {Qc : Array Value → State → Outcome → State → Prop} {XC : String → State → State → Prop} {free : Addr → Prop} {Ts : List Cond} {own C : String} {cC : ClassId} {b : Addr} {As rest : List Value} {g : JFrame}
    (hat : ClassAt s C cC) (S : CallFix p m c cc nL s args Ts own) (hM : vx_Met l y ws rm Pc Qc XC mc ms free) (cw : va_CI R s args own C index x y bytes maxL ret ws rm mc ms n) (hp : PreV s H C b Pc As)
    (hg : g.method = m) (hn : As.length = n) (hsize : g.locals.size = nL) (hstack : g.stack = As.reverse ++ .ref b :: rest) (hW : 2 * g.monitorRoom + (rest.map fun v => v.category).sum ≤ 8) (hdg : decode cc g.pc = .ok (.invokeinterface index count, 5)) (hf : cells + mc ≤ R.cells ∧ slots + ms ≤ R.slots) :
    vx_Run5 p l e R s m args below meth c H locs cells slots mc ms g rest (Qc (Value.ref b :: As).toArray) XC free := by
  obtain ⟨hrc, hrs, hfr, hlo, hws, hcw⟩ := cw.back
  have hini := cw.init
  have hK : vx_Back l R p e below s args y 5 8 (PreOf R mc ms Pc) (PostOf Qc mc ms free) (vx_Post XC mc ms free) := vx_back (bytes := bytes) (maxL := maxL) (ret := ret) hM hp.1 hrc hrs hfr hlo hws hcw (fun a' U hW => word_at hW (Or.inl (by first | rfl | simp [Cond.onTables, Cond.keeps, Cond.steady])) hini)
  obtain ⟨hx, hb, hml, ho, -⟩ := S
  obtain ⟨-, ⟨cellB, hcB, hoB, hclB⟩, hPc⟩ := hp
  obtain ⟨hfc, kB, hkB, -⟩ := hat
  cases hfc.symm.trans hclB
  intro T hT X
  rcases vx_callIF X hx (C := C) (bytes := bytes) (maxL := maxL) (ret := ret) ho cw.link cw.decl cw.face cw.sel cw.inst cw.pub cw.unh cw.cast cw.code cw.notMH hK (by rw [hT]; exact hcB) hoB hclB hkB hg (hsize.trans hml.symm) (argsL := As) (rest := rest) (fun sig h => hn.trans (cw.len sig h)) hstack hW (by rw [hb]; exact hdg)
    (fun vm₁ hW₁ => ⟨hf.1, hf.2, hPc (T.setVm vm₁) hT hW₁⟩) with ⟨v, vm₁, ⟨U', l2, c2, s2⟩, hW₁, X', ⟨g', mk, t, L, e1, e2, hq, h1, hL, h2, h3⟩, st⟩ | ⟨q, vm₁, ⟨U', l2, c2, s2⟩, hW₁, X', ⟨g', mk, t, L, E, ce, e1, e2, hq, hce, hcv, hcl, h1, hL, h2, h3⟩, st⟩
  · dsimp only [Pt.U, Pt.locs, Pt.cells, Pt.slots] at X' e1 e2 h1 h2 h3 st
    subst h1; subst h2; subst h3
    exact Or.inl ⟨v, (T.setVm vm₁).calling g' mk (Value.ref b :: As).toArray, t, U', L, hT, X', hL, e1, e2, hq, st⟩
  · dsimp only [Pt.U, Pt.locs, Pt.cells, Pt.slots] at X' e1 e2 h1 h2 h3 st hcl
    subst h1; subst h2; subst h3
    exact Or.inr ⟨q, (T.setVm vm₁).calling g' mk (Value.ref b :: As).toArray, t, U', L, E, ce, hT, X', hL, e1, e2, hq, hce, hcv, vx_cls hW₁ hcl, st⟩
theorem vx_callFv {S SX : Type} {post : S → Prop} {px : SX → Prop} {B : S → State → Prop} {BX : String → SX → State → Prop} {AX : Nat → Prop} (hr : vx_Run5 p l e R s m args below meth c H locs cells slots mc ms (F0 m pc ls st0) rest (va_Qv post B A1 a) (vx_X px BX AX) free) (hS : va_S A0 H0 H locs) (hA : ∀ q, q < H.size → A1 q → A0 q) (hf : ∀ q, free q → A0 q) (hAX : ∀ q, q < H.size → AX q → A0 q)
    (kx : ∀ (E : String) (ce : Cell) (q9 : Addr) (u : SX) (t : State) (H1 : Heap) (locs1 : List Loc), t.heap = H1 → s.vm.Alike t.vm → px u → BX E u t → H.size ≤ H1.size → (∀ q : Nat, q < H.size → ¬ AX q → H1[q]? = H[q]?) → va_S A0 H0 H1 locs1 → H1[q9]? = some ce → ce.vm = .none → s.vm.findClass E = some ce.cls → vx_W p l e R s m args below meth c H1 locs1 (cells + mc) (slots + ms) Q (F0 m pc ls rest) q9)
    (kk : ∀ (u : S) (t : State) (H1 : Heap) (locs1 : List Loc), t.heap = H1 → s.vm.Alike t.vm → post u → B u t → H.size ≤ H1.size → (∀ q : Nat, q < H.size → ¬ A1 q → H1[q]? = H[q]?) → va_S A0 H0 H1 locs1 → W p l e R s m args below meth c H1 locs1 (cells + mc) (slots + ms) Q (F0 m (pc + 5) ls (rest))) : W p l e R s m args below meth c H locs cells slots Q (F0 m pc ls st0) := by
  intro T hT X
  rcases hr T hT X with ⟨v, st₀, t, T', L, h0, X', hL, e1, e2, ⟨⟨u, hv, hp, hb⟩, hF⟩, st⟩ | ⟨q, st₀, t, T', L, E, ce, h0, X', hL, e1, e2, ⟨u, hp, hb, hF⟩, hce, hcv, hcl, st⟩
  · cases hv
    obtain ⟨k1, k2, k3⟩ := vx_keep h0 e1 hS hA hf hL hF
    obtain ⟨t2, a1, b1⟩ := kk u t T'.heap (locs ++ L) e1.symm (by rw [← e2]; exact X'.warmed.alike) hp hb k1 k2 k3 T' rfl X'
    exact ⟨t2, st t2 a1, b1⟩
  · obtain ⟨k1, k2, k3⟩ := vx_keep h0 e1 hS hAX hf hL hF
    obtain ⟨t2, a1, b1⟩ := kx E ce q u t T'.heap (locs ++ L) e1.symm (by rw [← e2]; exact X'.warmed.alike) hp hb k1 k2 k3 (by rw [e1]; exact hce) hcv hcl T' rfl X'
    exact ⟨t2, st.trans a1, b1⟩
theorem vx_callFi {S SX : Type} {post : Int32 → S → Prop} {px : SX → Prop} {B : S → State → Prop} {BX : String → SX → State → Prop} {AX : Nat → Prop} (hr : vx_Run5 p l e R s m args below meth c H locs cells slots mc ms (F0 m pc ls st0) rest (va_Qi post B A1 a) (vx_X px BX AX) free) (hS : va_S A0 H0 H locs) (hA : ∀ q, q < H.size → A1 q → A0 q) (hf : ∀ q, free q → A0 q) (hAX : ∀ q, q < H.size → AX q → A0 q)
    (kx : ∀ (E : String) (ce : Cell) (q9 : Addr) (u : SX) (t : State) (H1 : Heap) (locs1 : List Loc), t.heap = H1 → s.vm.Alike t.vm → px u → BX E u t → H.size ≤ H1.size → (∀ q : Nat, q < H.size → ¬ AX q → H1[q]? = H[q]?) → va_S A0 H0 H1 locs1 → H1[q9]? = some ce → ce.vm = .none → s.vm.findClass E = some ce.cls → vx_W p l e R s m args below meth c H1 locs1 (cells + mc) (slots + ms) Q (F0 m pc ls rest) q9)
    (kk : ∀ (r : Int32) (u : S) (t : State) (H1 : Heap) (locs1 : List Loc), t.heap = H1 → s.vm.Alike t.vm → post r u → B u t → H.size ≤ H1.size → (∀ q : Nat, q < H.size → ¬ A1 q → H1[q]? = H[q]?) → va_S A0 H0 H1 locs1 → W p l e R s m args below meth c H1 locs1 (cells + mc) (slots + ms) Q (F0 m (pc + 5) ls (.int r :: rest))) : W p l e R s m args below meth c H locs cells slots Q (F0 m pc ls st0) := by
  intro T hT X
  rcases hr T hT X with ⟨v, st₀, t, T', L, h0, X', hL, e1, e2, ⟨⟨r, u, hv, hp, hb⟩, hF⟩, st⟩ | ⟨q, st₀, t, T', L, E, ce, h0, X', hL, e1, e2, ⟨u, hp, hb, hF⟩, hce, hcv, hcl, st⟩
  · cases hv
    obtain ⟨k1, k2, k3⟩ := vx_keep h0 e1 hS hA hf hL hF
    obtain ⟨t2, a1, b1⟩ := kk r u t T'.heap (locs ++ L) e1.symm (by rw [← e2]; exact X'.warmed.alike) hp hb k1 k2 k3 T' rfl X'
    exact ⟨t2, st t2 a1, b1⟩
  · obtain ⟨k1, k2, k3⟩ := vx_keep h0 e1 hS hAX hf hL hF
    obtain ⟨t2, a1, b1⟩ := kx E ce q u t T'.heap (locs ++ L) e1.symm (by rw [← e2]; exact X'.warmed.alike) hp hb k1 k2 k3 (by rw [e1]; exact hce) hcv hcl T' rfl X'
    exact ⟨t2, st.trans a1, b1⟩
theorem vx_callFl {S SX : Type} {post : Int64 → S → Prop} {px : SX → Prop} {B : S → State → Prop} {BX : String → SX → State → Prop} {AX : Nat → Prop} (hr : vx_Run5 p l e R s m args below meth c H locs cells slots mc ms (F0 m pc ls st0) rest (va_Ql post B A1 a) (vx_X px BX AX) free) (hS : va_S A0 H0 H locs) (hA : ∀ q, q < H.size → A1 q → A0 q) (hf : ∀ q, free q → A0 q) (hAX : ∀ q, q < H.size → AX q → A0 q)
    (kx : ∀ (E : String) (ce : Cell) (q9 : Addr) (u : SX) (t : State) (H1 : Heap) (locs1 : List Loc), t.heap = H1 → s.vm.Alike t.vm → px u → BX E u t → H.size ≤ H1.size → (∀ q : Nat, q < H.size → ¬ AX q → H1[q]? = H[q]?) → va_S A0 H0 H1 locs1 → H1[q9]? = some ce → ce.vm = .none → s.vm.findClass E = some ce.cls → vx_W p l e R s m args below meth c H1 locs1 (cells + mc) (slots + ms) Q (F0 m pc ls rest) q9)
    (kk : ∀ (r : Int64) (u : S) (t : State) (H1 : Heap) (locs1 : List Loc), t.heap = H1 → s.vm.Alike t.vm → post r u → B u t → H.size ≤ H1.size → (∀ q : Nat, q < H.size → ¬ A1 q → H1[q]? = H[q]?) → va_S A0 H0 H1 locs1 → W p l e R s m args below meth c H1 locs1 (cells + mc) (slots + ms) Q (F0 m (pc + 5) ls (.long r :: rest))) : W p l e R s m args below meth c H locs cells slots Q (F0 m pc ls st0) := by
  intro T hT X
  rcases hr T hT X with ⟨v, st₀, t, T', L, h0, X', hL, e1, e2, ⟨⟨r, u, hv, hp, hb⟩, hF⟩, st⟩ | ⟨q, st₀, t, T', L, E, ce, h0, X', hL, e1, e2, ⟨u, hp, hb, hF⟩, hce, hcv, hcl, st⟩
  · cases hv
    obtain ⟨k1, k2, k3⟩ := vx_keep h0 e1 hS hA hf hL hF
    obtain ⟨t2, a1, b1⟩ := kk r u t T'.heap (locs ++ L) e1.symm (by rw [← e2]; exact X'.warmed.alike) hp hb k1 k2 k3 T' rfl X'
    exact ⟨t2, st t2 a1, b1⟩
  · obtain ⟨k1, k2, k3⟩ := vx_keep h0 e1 hS hAX hf hL hF
    obtain ⟨t2, a1, b1⟩ := kx E ce q u t T'.heap (locs ++ L) e1.symm (by rw [← e2]; exact X'.warmed.alike) hp hb k1 k2 k3 (by rw [e1]; exact hce) hcv hcl T' rfl X'
    exact ⟨t2, st.trans a1, b1⟩
theorem vx_callFf {S SX : Type} {post : UInt32 → S → Prop} {px : SX → Prop} {B : S → State → Prop} {BX : String → SX → State → Prop} {AX : Nat → Prop} (hr : vx_Run5 p l e R s m args below meth c H locs cells slots mc ms (F0 m pc ls st0) rest (va_Qf post B A1 a) (vx_X px BX AX) free) (hS : va_S A0 H0 H locs) (hA : ∀ q, q < H.size → A1 q → A0 q) (hf : ∀ q, free q → A0 q) (hAX : ∀ q, q < H.size → AX q → A0 q)
    (kx : ∀ (E : String) (ce : Cell) (q9 : Addr) (u : SX) (t : State) (H1 : Heap) (locs1 : List Loc), t.heap = H1 → s.vm.Alike t.vm → px u → BX E u t → H.size ≤ H1.size → (∀ q : Nat, q < H.size → ¬ AX q → H1[q]? = H[q]?) → va_S A0 H0 H1 locs1 → H1[q9]? = some ce → ce.vm = .none → s.vm.findClass E = some ce.cls → vx_W p l e R s m args below meth c H1 locs1 (cells + mc) (slots + ms) Q (F0 m pc ls rest) q9)
    (kk : ∀ (r : UInt32) (u : S) (t : State) (H1 : Heap) (locs1 : List Loc), t.heap = H1 → s.vm.Alike t.vm → post r u → B u t → H.size ≤ H1.size → (∀ q : Nat, q < H.size → ¬ A1 q → H1[q]? = H[q]?) → va_S A0 H0 H1 locs1 → W p l e R s m args below meth c H1 locs1 (cells + mc) (slots + ms) Q (F0 m (pc + 5) ls (.float r :: rest))) : W p l e R s m args below meth c H locs cells slots Q (F0 m pc ls st0) := by
  intro T hT X
  rcases hr T hT X with ⟨v, st₀, t, T', L, h0, X', hL, e1, e2, ⟨⟨r, u, hv, hp, hb⟩, hF⟩, st⟩ | ⟨q, st₀, t, T', L, E, ce, h0, X', hL, e1, e2, ⟨u, hp, hb, hF⟩, hce, hcv, hcl, st⟩
  · cases hv
    obtain ⟨k1, k2, k3⟩ := vx_keep h0 e1 hS hA hf hL hF
    obtain ⟨t2, a1, b1⟩ := kk r u t T'.heap (locs ++ L) e1.symm (by rw [← e2]; exact X'.warmed.alike) hp hb k1 k2 k3 T' rfl X'
    exact ⟨t2, st t2 a1, b1⟩
  · obtain ⟨k1, k2, k3⟩ := vx_keep h0 e1 hS hAX hf hL hF
    obtain ⟨t2, a1, b1⟩ := kx E ce q u t T'.heap (locs ++ L) e1.symm (by rw [← e2]; exact X'.warmed.alike) hp hb k1 k2 k3 (by rw [e1]; exact hce) hcv hcl T' rfl X'
    exact ⟨t2, st.trans a1, b1⟩
theorem vx_callFd {S SX : Type} {post : UInt64 → S → Prop} {px : SX → Prop} {B : S → State → Prop} {BX : String → SX → State → Prop} {AX : Nat → Prop} (hr : vx_Run5 p l e R s m args below meth c H locs cells slots mc ms (F0 m pc ls st0) rest (va_Qd post B A1 a) (vx_X px BX AX) free) (hS : va_S A0 H0 H locs) (hA : ∀ q, q < H.size → A1 q → A0 q) (hf : ∀ q, free q → A0 q) (hAX : ∀ q, q < H.size → AX q → A0 q)
    (kx : ∀ (E : String) (ce : Cell) (q9 : Addr) (u : SX) (t : State) (H1 : Heap) (locs1 : List Loc), t.heap = H1 → s.vm.Alike t.vm → px u → BX E u t → H.size ≤ H1.size → (∀ q : Nat, q < H.size → ¬ AX q → H1[q]? = H[q]?) → va_S A0 H0 H1 locs1 → H1[q9]? = some ce → ce.vm = .none → s.vm.findClass E = some ce.cls → vx_W p l e R s m args below meth c H1 locs1 (cells + mc) (slots + ms) Q (F0 m pc ls rest) q9)
    (kk : ∀ (r : UInt64) (u : S) (t : State) (H1 : Heap) (locs1 : List Loc), t.heap = H1 → s.vm.Alike t.vm → post r u → B u t → H.size ≤ H1.size → (∀ q : Nat, q < H.size → ¬ A1 q → H1[q]? = H[q]?) → va_S A0 H0 H1 locs1 → W p l e R s m args below meth c H1 locs1 (cells + mc) (slots + ms) Q (F0 m (pc + 5) ls (.double r :: rest))) : W p l e R s m args below meth c H locs cells slots Q (F0 m pc ls st0) := by
  intro T hT X
  rcases hr T hT X with ⟨v, st₀, t, T', L, h0, X', hL, e1, e2, ⟨⟨r, u, hv, hp, hb⟩, hF⟩, st⟩ | ⟨q, st₀, t, T', L, E, ce, h0, X', hL, e1, e2, ⟨u, hp, hb, hF⟩, hce, hcv, hcl, st⟩
  · cases hv
    obtain ⟨k1, k2, k3⟩ := vx_keep h0 e1 hS hA hf hL hF
    obtain ⟨t2, a1, b1⟩ := kk r u t T'.heap (locs ++ L) e1.symm (by rw [← e2]; exact X'.warmed.alike) hp hb k1 k2 k3 T' rfl X'
    exact ⟨t2, st t2 a1, b1⟩
  · obtain ⟨k1, k2, k3⟩ := vx_keep h0 e1 hS hAX hf hL hF
    obtain ⟨t2, a1, b1⟩ := kx E ce q u t T'.heap (locs ++ L) e1.symm (by rw [← e2]; exact X'.warmed.alike) hp hb k1 k2 k3 (by rw [e1]; exact hce) hcv hcl T' rfl X'
    exact ⟨t2, st.trans a1, b1⟩
end
/-! ===== END ===== -/
/-! ===== BEGIN by an interface, a method with a table of its own that may throw (follows va_callIFW, va_runFW) ===== -/
section
variable {p : Program} {l : Launch} {e : Env} {R : Room} {s : State} {m : MethodId} {args : Array Value} {below : List Frame} {meth : Method} {c : Code} {H : Heap} {locs : List Loc} {cells slots : Nat}
theorem vx_callIFW {T : State} (X : Stand p l e R s m args below meth c T locs cells slots) (hexec : p.tables.exec = Jvm.exec) {own C : String} {index count : Nat} {x y : MethodName} {bytes : ByteArray} {maxL : Nat} {ret : Option FieldType} {hh : List (Nat × Nat × Nat × Nat)}
    (hown : s.vm.findClass own = some m.cls) (hlink : (Cond.methodLink own index x).before args s = true) (hdecl : (Cond.declares x).before args s = true) (hface : (Cond.interfaceMethod x.cls x.cls x.name x.desc).before args s = true)
    (hsel : (Cond.selects C x y).before args s = true) (hinst : (Cond.instanceMethod y).before args s = true) (hpub : (Cond.publicMethod y).before args s = true) (hunh : (Cond.unhidden C x.name x.desc).before args s = true)
    (hcast : (Cond.castable C x.cls).before args s = true) (hcode : (Cond.codeWith y bytes maxL ret hh).before args s = true) (hx : x.cls ≠ "java/lang/invoke/MethodHandle" ∧ x.cls ≠ "java/lang/invoke/VarHandle")
    {W : Nat} {Pre : Pt → Array Value → Prop} {Post : Pt → Array Value → Option Value → Pt → Prop} {PostX : Pt → Array Value → Addr → Pt → Prop} (hK : vx_Back l R p e below s args y 5 W Pre Post PostX)
    {b : Addr} {cellB : Cell} {kB : Class} (hcell : T.heap[b]? = some cellB) (hobj : cellB.vm.isStatics = false) (hcls : s.vm.findClass C = some cellB.cls) (hkB : s.vm.classes[cellB.cls]? = some kB)
    {g : JFrame} (hg : g.method = m) (hsize : g.locals.size = c.maxLocals) {argsL rest : List Value} (hlen : ∀ sig, parseMethodDescriptor x.desc = some sig → argsL.length = sig.parameters.length)
    (hstack : g.stack = argsL.reverse ++ .ref b :: rest) (hW : 2 * g.monitorRoom + (rest.map fun v => v.category).sum ≤ W) (hdg : decode c.code g.pc = .ok (.invokeinterface index count, 5))
    (hpre : ∀ vm₁, s.WarmedH vm₁ → Pre ⟨T.setVm vm₁, locs, cells, slots⟩ (Value.ref b :: argsL).toArray) :
    (∃ (v : Option Value) (vm₁ : Vm) (B : Pt), s.WarmedH vm₁ ∧ Stand p l e R s m args below meth c B.U B.locs B.cells B.slots ∧ Post ⟨T.setVm vm₁, locs, cells, slots⟩ (Value.ref b :: argsL).toArray v B ∧
      ∀ target, Steps p.tables e below (B.U.setTop { g with pc := g.pc + 5, stack := v.toList ++ rest }) target → Steps p.tables e below (T.setTop g) target) ∨
    (∃ (q : Addr) (vm₁ : Vm) (B : Pt), s.WarmedH vm₁ ∧ Stand p l e R s m args below meth c B.U B.locs B.cells B.slots ∧ PostX ⟨T.setVm vm₁, locs, cells, slots⟩ (Value.ref b :: argsL).toArray q B ∧
      Steps p.tables e below (T.setTop g) ((B.U.setTop { g with stack := rest }).pushFrame (.throwing q))) := by
  obtain ⟨r0, r, hn, hrm, hstR, hsigR⟩ := Cond.declares_spec hdecl
  obtain ⟨cL, kL, r1, hcL, hkL, hiL, hfoundL, hn1⟩ := Cond.interfaceMethod_spec hface
  cases hn.symm.trans hn1
  have hr0cls : r0.cls = cL := Option.some.inj ((findClass_of_methodNamed hn).symm.trans hcL)
  obtain ⟨hnameR, hdescR⟩ := name_of_methodNamed hn hrm
  obtain ⟨mk, methM, hnamed, hmethM, -, habM⟩ := Cond.instanceMethod_spec hinst
  obtain ⟨c2, r2, m2, q1, q2, q3, q4, -⟩ := Cond.selects_spec hsel
  cases hcls.symm.trans q1
  cases hfoundL.symm.trans q2
  cases hnamed.symm.trans q3
  have hselP : selectMethod e.platform s.vm cellB.cls r0 = .method mk := by rw [Launch.admits_selectMethod X.admits]; exact q4
  have hpubM : hasFlag methM.accessFlags Acc.public_ = true := Cond.publicMethod_spec hnamed hmethM hpub
  have hway : ((cellB.cls :: s.vm.superclasses cellB.cls).any fun k => (declaredIn s.vm r.name r.desc k).any fun (_, z) => z.isPrivate || z.isStatic) = false := by
    rw [hnameR, hdescR]; exact Cond.unhidden_spec hcls hunh
  obtain ⟨c3, t3, w1, w2, w3⟩ := Cond.castable_spec hcast
  cases hcls.symm.trans w1
  cases hcL.symm.trans w2
  obtain ⟨vm₁, X₁, hstep₁⟩ := X.invokeinterface hexec hown hlink hn hrm hstR (by rw [hr0cls]; exact hkL) hiL hx (a := b) (cell := cellB) (kcell := kB) hcell
    (fun z h => by rw [h] at hobj; cases hobj) hkB (by rw [hr0cls]; exact w3) hselP hmethM hway hpubM habM (g := g) hg (argsL := argsL) (rest := rest) (hlen _ hsigR) hstack hdg
  rcases hK m meth c ⟨T.setVm vm₁, locs, cells, slots⟩ { g with stack := rest } (.invokeinterface index count) mk (Value.ref b :: argsL).toArray X₁ hg hsize hdg hW (X₁.named hnamed) (hpre vm₁ X₁.warmed) with ⟨v, B, X', hpost, hsteps⟩ | ⟨q, B, X', hpost, hsteps⟩
  · exact Or.inl ⟨v, vm₁, B, X₁.warmed, X', hpost, fun target h => hstep₁ _ fun acts => by rw [doInvoke_state]; exact hsteps.trans h⟩
  · exact Or.inr ⟨q, vm₁, B, X₁.warmed, X', hpost, hstep₁ _ fun acts => by rw [doInvoke_state]; exact hsteps⟩
theorem vx_runFW {x y : MethodName} {bytes cc : ByteArray} {maxL nL mc ms n index count : Nat} {ret : Option FieldType} {hh : List (Nat × Nat × Nat × Nat)} {ws : List Cond} {rm : Room} {Pc : Array Value → State → Prop} {Qc : Array Value → State → Outcome → State → Prop} {XC : String → State → State → Prop} {free : Addr → Prop} {Ts : List Cond} {own C : String} {cC : ClassId} {b : Addr} {As rest : List Value} {g : JFrame}
    (hat : ClassAt s C cC) (S : CallFix p m c cc nL s args Ts own) (hM : vx_Met l y ws rm Pc Qc XC mc ms free) (cw : va_CIW R s args own C index x y bytes maxL ret hh ws rm mc ms n) (hp : PreV s H C b Pc As)
    (hg : g.method = m) (hn : As.length = n) (hsize : g.locals.size = nL) (hstack : g.stack = As.reverse ++ .ref b :: rest) (hW : 2 * g.monitorRoom + (rest.map fun v => v.category).sum ≤ 8) (hdg : decode cc g.pc = .ok (.invokeinterface index count, 5)) (hf : cells + mc ≤ R.cells ∧ slots + ms ≤ R.slots) :
    vx_Run5 p l e R s m args below meth c H locs cells slots mc ms g rest (Qc (Value.ref b :: As).toArray) XC free := by
  obtain ⟨hrc, hrs, hfr, hlo, hws, hcw⟩ := cw.back
  have hini := cw.init
  have hK : vx_Back l R p e below s args y 5 8 (PreOf R mc ms Pc) (PostOf Qc mc ms free) (vx_Post XC mc ms free) := vx_backW (hh := hh) (bytes := bytes) (maxL := maxL) (ret := ret) hM hp.1 hrc hrs hfr hlo hws hcw (fun a' U hW => word_at hW (Or.inl (by first | rfl | simp [Cond.onTables, Cond.keeps, Cond.steady])) hini)
  obtain ⟨hx, hb, hml, ho, -⟩ := S
  obtain ⟨-, ⟨cellB, hcB, hoB, hclB⟩, hPc⟩ := hp
  obtain ⟨hfc, kB, hkB, -⟩ := hat
  cases hfc.symm.trans hclB
  intro T hT X
  rcases vx_callIFW X hx (C := C) (hh := hh) (bytes := bytes) (maxL := maxL) (ret := ret) ho cw.link cw.decl cw.face cw.sel cw.inst cw.pub cw.unh cw.cast cw.code cw.notMH hK (by rw [hT]; exact hcB) hoB hclB hkB hg (hsize.trans hml.symm) (argsL := As) (rest := rest) (fun sig h => hn.trans (cw.len sig h)) hstack hW (by rw [hb]; exact hdg)
    (fun vm₁ hW₁ => ⟨hf.1, hf.2, hPc (T.setVm vm₁) hT hW₁⟩) with ⟨v, vm₁, ⟨U', l2, c2, s2⟩, hW₁, X', ⟨g', mk, t, L, e1, e2, hq, h1, hL, h2, h3⟩, st⟩ | ⟨q, vm₁, ⟨U', l2, c2, s2⟩, hW₁, X', ⟨g', mk, t, L, E, ce, e1, e2, hq, hce, hcv, hcl, h1, hL, h2, h3⟩, st⟩
  · dsimp only [Pt.U, Pt.locs, Pt.cells, Pt.slots] at X' e1 e2 h1 h2 h3 st
    subst h1; subst h2; subst h3
    exact Or.inl ⟨v, (T.setVm vm₁).calling g' mk (Value.ref b :: As).toArray, t, U', L, hT, X', hL, e1, e2, hq, st⟩
  · dsimp only [Pt.U, Pt.locs, Pt.cells, Pt.slots] at X' e1 e2 h1 h2 h3 st hcl
    subst h1; subst h2; subst h3
    exact Or.inr ⟨q, (T.setVm vm₁).calling g' mk (Value.ref b :: As).toArray, t, U', L, E, ce, hT, X', hL, e1, e2, hq, hce, hcv, vx_cls hW₁ hcl, st⟩
end
/-! ===== END ===== -/
/-! ===== BEGIN .. of methods that hand back an object of the pool ===== -/
section
variable {p : Program} {l : Launch} {e : Env} {R : Room} {s : State} {m : MethodId} {args : Array Value} {below : List Frame} {meth : Method} {c : Code} {H : Heap} {locs : List Loc} {cells slots : Nat} {Q : State → Prop}
variable {mc ms : Nat} {free : Addr → Prop} {A0 A1 : Nat → Prop} {H0 : Heap} {a : Array Value} {pc : Nat} {ls : Array Slot} {st0 rest : List Value}
theorem vx_callq {S SX : Type} {post : Option Nat → S → Prop} {px : SX → Prop} {B : S → State → Prop} {BX : String → SX → State → Prop} {AX : Nat → Prop} (hr : vx_Run p l e R s m args below meth c H locs cells slots mc ms (F0 m pc ls st0) rest (va_Qq post B A1 a) (vx_X px BX AX) free) (hS : va_S A0 H0 H locs) (hA : ∀ q, q < H.size → A1 q → A0 q) (hf : ∀ q, free q → A0 q) (hAX : ∀ q, q < H.size → AX q → A0 q)
    (kx : ∀ (E : String) (ce : Cell) (q9 : Addr) (u : SX) (t : State) (H1 : Heap) (locs1 : List Loc), t.heap = H1 → s.vm.Alike t.vm → px u → BX E u t → H.size ≤ H1.size → (∀ q : Nat, q < H.size → ¬ AX q → H1[q]? = H[q]?) → va_S A0 H0 H1 locs1 → H1[q9]? = some ce → ce.vm = .none → s.vm.findClass E = some ce.cls → vx_W p l e R s m args below meth c H1 locs1 (cells + mc) (slots + ms) Q (F0 m pc ls rest) q9)
    (kk : ∀ (r : Option Nat) (u : S) (t : State) (H1 : Heap) (locs1 : List Loc), t.heap = H1 → s.vm.Alike t.vm → post r u → B u t → H.size ≤ H1.size → (∀ q : Nat, q < H.size → ¬ A1 q → H1[q]? = H[q]?) → va_S A0 H0 H1 locs1 → W p l e R s m args below meth c H1 locs1 (cells + mc) (slots + ms) Q (F0 m (pc + 3) ls (va_rf r :: rest))) : W p l e R s m args below meth c H locs cells slots Q (F0 m pc ls st0) := by
  intro T hT X
  rcases hr T hT X with ⟨v, st₀, t, T', L, h0, X', hL, e1, e2, ⟨⟨r, u, hv, hp, hb⟩, hF⟩, st⟩ | ⟨q, st₀, t, T', L, E, ce, h0, X', hL, e1, e2, ⟨u, hp, hb, hF⟩, hce, hcv, hcl, st⟩
  · cases hv
    obtain ⟨k1, k2, k3⟩ := vx_keep h0 e1 hS hA hf hL hF
    obtain ⟨t2, a1, b1⟩ := kk r u t T'.heap (locs ++ L) e1.symm (by rw [← e2]; exact X'.warmed.alike) hp hb k1 k2 k3 T' rfl X'
    exact ⟨t2, st t2 a1, b1⟩
  · obtain ⟨k1, k2, k3⟩ := vx_keep h0 e1 hS hAX hf hL hF
    obtain ⟨t2, a1, b1⟩ := kx E ce q u t T'.heap (locs ++ L) e1.symm (by rw [← e2]; exact X'.warmed.alike) hp hb k1 k2 k3 (by rw [e1]; exact hce) hcv hcl T' rfl X'
    exact ⟨t2, st.trans a1, b1⟩
end
/-! ===== END ===== -/
/-! ===== BEGIN .. a constant ===== -/
section
variable {p : Program} {l : Launch} {e : Env} {R : Room} {s : State} {m : MethodId} {args : Array Value} {below : List Frame} {meth : Method} {c : Code} {H : Heap} {locs : List Loc} {cells slots : Nat} {Q : State → Prop}
variable {mc ms : Nat} {free : Addr → Prop} {A0 A1 : Nat → Prop} {H0 : Heap} {a : Array Value} {pc : Nat} {ls : Array Slot} {st0 rest : List Value}
theorem vx_calle {ad : Nat → Nat} {S SX : Type} {post : Option Nat → S → Prop} {px : SX → Prop} {B : S → State → Prop} {BX : String → SX → State → Prop} {AX : Nat → Prop} (hr : vx_Run p l e R s m args below meth c H locs cells slots mc ms (F0 m pc ls st0) rest (va_Qe ad post B A1 a) (vx_X px BX AX) free) (hS : va_S A0 H0 H locs) (hA : ∀ q, q < H.size → A1 q → A0 q) (hf : ∀ q, free q → A0 q) (hAX : ∀ q, q < H.size → AX q → A0 q)
    (kx : ∀ (E : String) (ce : Cell) (q9 : Addr) (u : SX) (t : State) (H1 : Heap) (locs1 : List Loc), t.heap = H1 → s.vm.Alike t.vm → px u → BX E u t → H.size ≤ H1.size → (∀ q : Nat, q < H.size → ¬ AX q → H1[q]? = H[q]?) → va_S A0 H0 H1 locs1 → H1[q9]? = some ce → ce.vm = .none → s.vm.findClass E = some ce.cls → vx_W p l e R s m args below meth c H1 locs1 (cells + mc) (slots + ms) Q (F0 m pc ls rest) q9)
    (kk : ∀ (r : Option Nat) (u : S) (t : State) (H1 : Heap) (locs1 : List Loc), t.heap = H1 → s.vm.Alike t.vm → post r u → B u t → H.size ≤ H1.size → (∀ q : Nat, q < H.size → ¬ A1 q → H1[q]? = H[q]?) → va_S A0 H0 H1 locs1 → W p l e R s m args below meth c H1 locs1 (cells + mc) (slots + ms) Q (F0 m (pc + 3) ls (va_re ad r :: rest))) : W p l e R s m args below meth c H locs cells slots Q (F0 m pc ls st0) := by
  intro T hT X
  rcases hr T hT X with ⟨v, st₀, t, T', L, h0, X', hL, e1, e2, ⟨⟨r, u, hv, hp, hb⟩, hF⟩, st⟩ | ⟨q, st₀, t, T', L, E, ce, h0, X', hL, e1, e2, ⟨u, hp, hb, hF⟩, hce, hcv, hcl, st⟩
  · cases hv
    obtain ⟨k1, k2, k3⟩ := vx_keep h0 e1 hS hA hf hL hF
    obtain ⟨t2, a1, b1⟩ := kk r u t T'.heap (locs ++ L) e1.symm (by rw [← e2]; exact X'.warmed.alike) hp hb k1 k2 k3 T' rfl X'
    exact ⟨t2, st t2 a1, b1⟩
  · obtain ⟨k1, k2, k3⟩ := vx_keep h0 e1 hS hAX hf hL hF
    obtain ⟨t2, a1, b1⟩ := kx E ce q u t T'.heap (locs ++ L) e1.symm (by rw [← e2]; exact X'.warmed.alike) hp hb k1 k2 k3 (by rw [e1]; exact hce) hcv hcl T' rfl X'
    exact ⟨t2, st.trans a1, b1⟩
end
/-! ===== END ===== -/
/-! ===== BEGIN .. by an interface, an object ===== -/
section
variable {p : Program} {l : Launch} {e : Env} {R : Room} {s : State} {m : MethodId} {args : Array Value} {below : List Frame} {meth : Method} {c : Code} {H : Heap} {locs : List Loc} {cells slots : Nat} {Q : State → Prop}
variable {mc ms : Nat} {free : Addr → Prop} {A0 A1 : Nat → Prop} {H0 : Heap} {a : Array Value} {pc : Nat} {ls : Array Slot} {st0 rest : List Value}
theorem vx_callFq {S SX : Type} {post : Option Nat → S → Prop} {px : SX → Prop} {B : S → State → Prop} {BX : String → SX → State → Prop} {AX : Nat → Prop} (hr : vx_Run5 p l e R s m args below meth c H locs cells slots mc ms (F0 m pc ls st0) rest (va_Qq post B A1 a) (vx_X px BX AX) free) (hS : va_S A0 H0 H locs) (hA : ∀ q, q < H.size → A1 q → A0 q) (hf : ∀ q, free q → A0 q) (hAX : ∀ q, q < H.size → AX q → A0 q)
    (kx : ∀ (E : String) (ce : Cell) (q9 : Addr) (u : SX) (t : State) (H1 : Heap) (locs1 : List Loc), t.heap = H1 → s.vm.Alike t.vm → px u → BX E u t → H.size ≤ H1.size → (∀ q : Nat, q < H.size → ¬ AX q → H1[q]? = H[q]?) → va_S A0 H0 H1 locs1 → H1[q9]? = some ce → ce.vm = .none → s.vm.findClass E = some ce.cls → vx_W p l e R s m args below meth c H1 locs1 (cells + mc) (slots + ms) Q (F0 m pc ls rest) q9)
    (kk : ∀ (r : Option Nat) (u : S) (t : State) (H1 : Heap) (locs1 : List Loc), t.heap = H1 → s.vm.Alike t.vm → post r u → B u t → H.size ≤ H1.size → (∀ q : Nat, q < H.size → ¬ A1 q → H1[q]? = H[q]?) → va_S A0 H0 H1 locs1 → W p l e R s m args below meth c H1 locs1 (cells + mc) (slots + ms) Q (F0 m (pc + 5) ls (va_rf r :: rest))) : W p l e R s m args below meth c H locs cells slots Q (F0 m pc ls st0) := by
  intro T hT X
  rcases hr T hT X with ⟨v, st₀, t, T', L, h0, X', hL, e1, e2, ⟨⟨r, u, hv, hp, hb⟩, hF⟩, st⟩ | ⟨q, st₀, t, T', L, E, ce, h0, X', hL, e1, e2, ⟨u, hp, hb, hF⟩, hce, hcv, hcl, st⟩
  · cases hv
    obtain ⟨k1, k2, k3⟩ := vx_keep h0 e1 hS hA hf hL hF
    obtain ⟨t2, a1, b1⟩ := kk r u t T'.heap (locs ++ L) e1.symm (by rw [← e2]; exact X'.warmed.alike) hp hb k1 k2 k3 T' rfl X'
    exact ⟨t2, st t2 a1, b1⟩
  · obtain ⟨k1, k2, k3⟩ := vx_keep h0 e1 hS hAX hf hL hF
    obtain ⟨t2, a1, b1⟩ := kx E ce q u t T'.heap (locs ++ L) e1.symm (by rw [← e2]; exact X'.warmed.alike) hp hb k1 k2 k3 (by rw [e1]; exact hce) hcv hcl T' rfl X'
    exact ⟨t2, st.trans a1, b1⟩
end
/-! ===== END ===== -/
/-! ===== BEGIN .. by an interface, a constant ===== -/
section
variable {p : Program} {l : Launch} {e : Env} {R : Room} {s : State} {m : MethodId} {args : Array Value} {below : List Frame} {meth : Method} {c : Code} {H : Heap} {locs : List Loc} {cells slots : Nat} {Q : State → Prop}
variable {mc ms : Nat} {free : Addr → Prop} {A0 A1 : Nat → Prop} {H0 : Heap} {a : Array Value} {pc : Nat} {ls : Array Slot} {st0 rest : List Value}
theorem vx_callFe {ad : Nat → Nat} {S SX : Type} {post : Option Nat → S → Prop} {px : SX → Prop} {B : S → State → Prop} {BX : String → SX → State → Prop} {AX : Nat → Prop} (hr : vx_Run5 p l e R s m args below meth c H locs cells slots mc ms (F0 m pc ls st0) rest (va_Qe ad post B A1 a) (vx_X px BX AX) free) (hS : va_S A0 H0 H locs) (hA : ∀ q, q < H.size → A1 q → A0 q) (hf : ∀ q, free q → A0 q) (hAX : ∀ q, q < H.size → AX q → A0 q)
    (kx : ∀ (E : String) (ce : Cell) (q9 : Addr) (u : SX) (t : State) (H1 : Heap) (locs1 : List Loc), t.heap = H1 → s.vm.Alike t.vm → px u → BX E u t → H.size ≤ H1.size → (∀ q : Nat, q < H.size → ¬ AX q → H1[q]? = H[q]?) → va_S A0 H0 H1 locs1 → H1[q9]? = some ce → ce.vm = .none → s.vm.findClass E = some ce.cls → vx_W p l e R s m args below meth c H1 locs1 (cells + mc) (slots + ms) Q (F0 m pc ls rest) q9)
    (kk : ∀ (r : Option Nat) (u : S) (t : State) (H1 : Heap) (locs1 : List Loc), t.heap = H1 → s.vm.Alike t.vm → post r u → B u t → H.size ≤ H1.size → (∀ q : Nat, q < H.size → ¬ A1 q → H1[q]? = H[q]?) → va_S A0 H0 H1 locs1 → W p l e R s m args below meth c H1 locs1 (cells + mc) (slots + ms) Q (F0 m (pc + 5) ls (va_re ad r :: rest))) : W p l e R s m args below meth c H locs cells slots Q (F0 m pc ls st0) := by
  intro T hT X
  rcases hr T hT X with ⟨v, st₀, t, T', L, h0, X', hL, e1, e2, ⟨⟨r, u, hv, hp, hb⟩, hF⟩, st⟩ | ⟨q, st₀, t, T', L, E, ce, h0, X', hL, e1, e2, ⟨u, hp, hb, hF⟩, hce, hcv, hcl, st⟩
  · cases hv
    obtain ⟨k1, k2, k3⟩ := vx_keep h0 e1 hS hA hf hL hF
    obtain ⟨t2, a1, b1⟩ := kk r u t T'.heap (locs ++ L) e1.symm (by rw [← e2]; exact X'.warmed.alike) hp hb k1 k2 k3 T' rfl X'
    exact ⟨t2, st t2 a1, b1⟩
  · obtain ⟨k1, k2, k3⟩ := vx_keep h0 e1 hS hAX hf hL hF
    obtain ⟨t2, a1, b1⟩ := kx E ce q u t T'.heap (locs ++ L) e1.symm (by rw [← e2]; exact X'.warmed.alike) hp hb k1 k2 k3 (by rw [e1]; exact hce) hcv hcl T' rfl X'
    exact ⟨t2, st.trans a1, b1⟩
end
/-! ===== END ===== -/
/-! ===== BEGIN what the machine throws by itself: null at a field, at athrow ===== -/
section VXM2
variable {p : Program} {l : Launch} {e : Env} {R : Room} {s : State} {m : MethodId} {args : Array Value} {below : List Frame} {meth : Method} {c : Code} {H : Heap} {locs : List Loc} {cells slots : Nat}
variable {Q : State → Prop} {cc : ByteArray} {pc : Nat} {ls : Array Slot} {rest : List Value}
theorem vx_getfN {D cl tys} {own ref C : String} {T : u_T} {N ci index : Nat} {Ts : List Cond} (hexec : p.tables.exec = Jvm.exec) (hb : c.code = cc) (hts : ∀ w ∈ Ts, w.before args s = true) (hin : ∀ w ∈ u_ws C T N, w ∈ Ts) (hown : s.vm.findClass own = some m.cls) (hK : va_K D cl tys s) (hc : cl[ci]? = some (C, T, N)) (k : Nat) (hk : k < N) (hlink : (Cond.fieldLink own index ref (T k).2.1 (T k).2.2.1).before args s = true) (hsame : ∀ x, s.fieldFound? (T k).1 (T k).2.1 (T k).2.2.1 = some x → s.fieldFound? ref (T k).2.1 (T k).2.2.1 = some x) (hdg : decode cc pc = .ok (.getfield index, 3)) (kk : vx_NoteN p l e R s m args below meth c H locs cells slots Q (F0 m pc ls rest)) : W p l e R s m args below meth c H locs cells slots Q (F0 m pc ls (.null :: rest)) := by
  obtain ⟨hS, hfc, kC, hkC, -⟩ := hK.1 ci _ hc
  obtain ⟨cf, kf, fi, f, hi, -⟩ := hS k hk
  intro U hU X
  obtain ⟨vm', X1, st1⟩ := X.getfieldNull hexec hown hlink (hsame _ hi) (u_facts hfc hkC (u_lays hts hin hk) hi).1 (g := F0 m pc ls (.null :: rest)) rfl (rest := rest) rfl (by rw [hb]; exact hdg)
  obtain ⟨t, st, q⟩ := kk (U.setVm vm') hU X1
  exact ⟨t, st1 t st, q⟩
theorem vx_getfNN {D cl tys} {own ref C host : String} {T : u_T} {N ci index : Nat} {Ts : List Cond} (hexec : p.tables.exec = Jvm.exec) (hb : c.code = cc) (hts : ∀ w ∈ Ts, w.before args s = true) (hin : ∀ w ∈ u_ws C T N, w ∈ Ts) (hown : s.vm.findClass own = some m.cls) (hK : va_K D cl tys s) (hc : cl[ci]? = some (C, T, N)) (k : Nat) (hk : k < N) (hlink : (Cond.fieldLinkNest own index ref (T k).2.1 (T k).2.2.1 host).before args s = true) (hsame : ∀ x, s.fieldFound? (T k).1 (T k).2.1 (T k).2.2.1 = some x → s.fieldFound? ref (T k).2.1 (T k).2.2.1 = some x) (hdg : decode cc pc = .ok (.getfield index, 3)) (kk : vx_NoteN p l e R s m args below meth c H locs cells slots Q (F0 m pc ls rest)) : W p l e R s m args below meth c H locs cells slots Q (F0 m pc ls (.null :: rest)) := by
  obtain ⟨hS, hfc, kC, hkC, -⟩ := hK.1 ci _ hc
  obtain ⟨cf, kf, fi, f, hi, -⟩ := hS k hk
  intro U hU X
  obtain ⟨vm', X1, st1⟩ := X.getfieldNullNest hexec hown hlink (hsame _ hi) (u_facts hfc hkC (u_lays hts hin hk) hi).1 (g := F0 m pc ls (.null :: rest)) rfl (rest := rest) rfl (by rw [hb]; exact hdg)
  obtain ⟨t, st, q⟩ := kk (U.setVm vm') hU X1
  exact ⟨t, st1 t st, q⟩
theorem vx_putfN {D cl tys} {own ref C : String} {T : u_T} {N ci index : Nat} {Ts : List Cond} (hexec : p.tables.exec = Jvm.exec) (hb : c.code = cc) (hts : ∀ w ∈ Ts, w.before args s = true) (hin : ∀ w ∈ u_ws C T N, w ∈ Ts) (hown : s.vm.findClass own = some m.cls) (hK : va_K D cl tys s) (hc : cl[ci]? = some (C, T, N)) (k : Nat) (hk : k < N) (hlink : (Cond.fieldLink own index ref (T k).2.1 (T k).2.2.1).before args s = true) (hsame : ∀ x, s.fieldFound? (T k).1 (T k).2.1 (T k).2.2.1 = some x → s.fieldFound? ref (T k).2.1 (T k).2.2.1 = some x) (hfin : (T k).2.2.2 = false) {v : Value} (hdg : decode cc pc = .ok (.putfield index, 3)) (kk : vx_NoteN p l e R s m args below meth c H locs cells slots Q (F0 m pc ls rest)) : W p l e R s m args below meth c H locs cells slots Q (F0 m pc ls (v :: .null :: rest)) := by
  obtain ⟨hS, hfc, kC, hkC, -⟩ := hK.1 ci _ hc
  obtain ⟨cf, kf, fi, f, hi, -⟩ := hS k hk
  have hlay := hts _ (hin _ (u_in_lay hk))
  unfold u_lay at hlay
  rw [if_neg (by rw [hfin]; decide)] at hlay
  obtain ⟨c9, k9, cf9, kf9, fi9, f9, -, -, hi9, hst9, hnf9, -⟩ := Cond.lays_spec hlay
  cases hi.symm.trans hi9
  intro U hU X
  obtain ⟨vm', X1, st1⟩ := X.putfieldNull hexec hown hlink (hsame _ hi) hst9 hnf9 (g := F0 m pc ls (v :: .null :: rest)) rfl (v := v) (rest := rest) rfl (by rw [hb]; exact hdg)
  obtain ⟨t, st, q⟩ := kk (U.setVm vm') hU X1
  exact ⟨t, st1 t st, q⟩
theorem vx_putfNN {D cl tys} {own ref C host : String} {T : u_T} {N ci index : Nat} {Ts : List Cond} (hexec : p.tables.exec = Jvm.exec) (hb : c.code = cc) (hts : ∀ w ∈ Ts, w.before args s = true) (hin : ∀ w ∈ u_ws C T N, w ∈ Ts) (hown : s.vm.findClass own = some m.cls) (hK : va_K D cl tys s) (hc : cl[ci]? = some (C, T, N)) (k : Nat) (hk : k < N) (hlink : (Cond.fieldLinkNest own index ref (T k).2.1 (T k).2.2.1 host).before args s = true) (hsame : ∀ x, s.fieldFound? (T k).1 (T k).2.1 (T k).2.2.1 = some x → s.fieldFound? ref (T k).2.1 (T k).2.2.1 = some x) (hfin : (T k).2.2.2 = false) {v : Value} (hdg : decode cc pc = .ok (.putfield index, 3)) (kk : vx_NoteN p l e R s m args below meth c H locs cells slots Q (F0 m pc ls rest)) : W p l e R s m args below meth c H locs cells slots Q (F0 m pc ls (v :: .null :: rest)) := by
  obtain ⟨hS, hfc, kC, hkC, -⟩ := hK.1 ci _ hc
  obtain ⟨cf, kf, fi, f, hi, -⟩ := hS k hk
  have hlay := hts _ (hin _ (u_in_lay hk))
  unfold u_lay at hlay
  rw [if_neg (by rw [hfin]; decide)] at hlay
  obtain ⟨c9, k9, cf9, kf9, fi9, f9, -, -, hi9, hst9, hnf9, -⟩ := Cond.lays_spec hlay
  cases hi.symm.trans hi9
  intro U hU X
  obtain ⟨vm', X1, st1⟩ := X.putfieldNullNest hexec hown hlink (hsame _ hi) hst9 hnf9 (g := F0 m pc ls (v :: .null :: rest)) rfl (v := v) (rest := rest) rfl (by rw [hb]; exact hdg)
  obtain ⟨t, st, q⟩ := kk (U.setVm vm') hU X1
  exact ⟨t, st1 t st, q⟩
theorem vx_athrowN (hexec : p.tables.exec = Jvm.exec) (hb : c.code = cc) (hdg : decode cc pc = .ok (.athrow, 1)) (k : vx_NoteN p l e R s m args below meth c H locs cells slots Q (F0 m pc ls rest)) : W p l e R s m args below meth c H locs cells slots Q (F0 m pc ls (.null :: rest)) := by
  intro T hT X
  obtain ⟨t, st, q⟩ := k T hT X
  exact ⟨t, X.athrowNull hexec (g := F0 m pc ls (.null :: rest)) rfl (rest := rest) rfl (by rw [hb]; exact hdg) t st, q⟩
end VXM2
/-! ===== END ===== -/
end
section
def RX0 : String := "SpiderTales$Future"
def TX0 : u_T := fun k => match k with
  | 0 => ("SpiderTales$Future", "sky", "LSpiderTales$Sky;", true)
  | 1 => ("SpiderTales$Future", "now", "LSpiderTales$State;", true)
  | 2 => ("SpiderTales$Future", "then", "LSpiderTales$State;", true)
  | _ => ("SpiderTales$Future", "seed", "I", false)
def tyX0 : Nat → FieldType := fun k => match k with
  | 0 => .object "SpiderTales$Sky"
  | 1 => .object "SpiderTales$State"
  | 2 => .object "SpiderTales$State"
  | _ => .int
theorem nmX0 : ∀ a, a < 4 → ∀ b, b < 4 → a ≠ b → (TX0 a).2.1 ≠ (TX0 b).2.1 := by decide +kernel
theorem tyX0_ok : ∀ k, k < 4 → parseFieldDescriptor (TX0 k).2.2.1 = some (tyX0 k) := by decide +kernel
def RX1 : String := "SpiderTales$Orders"
def TX1 : u_T := fun k => match k with
  | 0 => ("SpiderTales$Orders", "sky", "LSpiderTales$Sky;", true)
  | 1 => ("SpiderTales$Orders", "state", "LSpiderTales$State;", true)
  | 2 => ("SpiderTales$Orders", "search", "LSpiderTales$Search;", true)
  | 3 => ("SpiderTales$Orders", "tries", "[I", true)
  | 4 => ("SpiderTales$Orders", "firsts", "[I", true)
  | _ => ("SpiderTales$Orders", "plans", "[I", true)
def tyX1 : Nat → FieldType := fun k => match k with
  | 0 => .object "SpiderTales$Sky"
  | 1 => .object "SpiderTales$State"
  | 2 => .object "SpiderTales$Search"
  | 3 => .array .int
  | 4 => .array .int
  | _ => .array .int
theorem nmX1 : ∀ a, a < 6 → ∀ b, b < 6 → a ≠ b → (TX1 a).2.1 ≠ (TX1 b).2.1 := by decide +kernel
theorem tyX1_ok : ∀ k, k < 6 → parseFieldDescriptor (TX1 k).2.2.1 = some (tyX1 k) := by decide +kernel
def RX2 : String := "SpiderTales$Reader"
def TX2 : u_T := fun k => match k with
  | 0 => ("SpiderTales$Reader", "tokens", "LSpiderTales$Tokens;", true)
  | 1 => ("SpiderTales$Reader", "sky", "LSpiderTales$Sky;", true)
  | 2 => ("SpiderTales$Reader", "kind", "I", false)
  | 3 => ("SpiderTales$Reader", "place", "I", false)
  | 4 => ("SpiderTales$Reader", "coinsTold", "Z", false)
  | _ => ("SpiderTales$Reader", "rivalTold", "Z", false)
def tyX2 : Nat → FieldType := fun k => match k with
  | 0 => .object "SpiderTales$Tokens"
  | 1 => .object "SpiderTales$Sky"
  | 2 => .int
  | 3 => .int
  | 4 => .boolean
  | _ => .boolean
theorem nmX2 : ∀ a, a < 6 → ∀ b, b < 6 → a ≠ b → (TX2 a).2.1 ≠ (TX2 b).2.1 := by decide +kernel
theorem tyX2_ok : ∀ k, k < 6 → parseFieldDescriptor (TX2 k).2.2.1 = some (tyX2 k) := by decide +kernel
def RX3 : String := "SpiderTales$Rows"
def TX3 : u_T := fun k => match k with
  | 0 => ("SpiderTales$Rows", "sky", "LSpiderTales$Sky;", true)
  | 1 => ("SpiderTales$Rows", "world", "LSpiderTales$World;", true)
  | 2 => ("SpiderTales$Rows", "allowed", "[J", true)
  | 3 => ("SpiderTales$Rows", "ways", "[I", true)
  | 4 => ("SpiderTales$Rows", "steps", "I", false)
  | _ => ("SpiderTales$Rows", "first", "I", false)
def tyX3 : Nat → FieldType := fun k => match k with
  | 0 => .object "SpiderTales$Sky"
  | 1 => .object "SpiderTales$World"
  | 2 => .array .long
  | 3 => .array .int
  | 4 => .int
  | _ => .int
theorem nmX3 : ∀ a, a < 6 → ∀ b, b < 6 → a ≠ b → (TX3 a).2.1 ≠ (TX3 b).2.1 := by decide +kernel
theorem tyX3_ok : ∀ k, k < 6 → parseFieldDescriptor (TX3 k).2.2.1 = some (tyX3 k) := by decide +kernel
def RX4 : String := "SpiderTales$Rule"
def TX4 : u_T := fun k => match k with
  | 0 => ("SpiderTales$Rule", "code", "[I", true)
  | 1 => ("SpiderTales$Rule", "values", "[I", true)
  | 2 => ("SpiderTales$Rule", "waiting", "[I", true)
  | _ => ("SpiderTales$Rule", "size", "I", false)
def tyX4 : Nat → FieldType := fun k => match k with
  | 0 => .array .int
  | 1 => .array .int
  | 2 => .array .int
  | _ => .int
theorem nmX4 : ∀ a, a < 4 → ∀ b, b < 4 → a ≠ b → (TX4 a).2.1 ≠ (TX4 b).2.1 := by decide +kernel
theorem tyX4_ok : ∀ k, k < 4 → parseFieldDescriptor (TX4 k).2.2.1 = some (tyX4 k) := by decide +kernel
def RX5 : String := "SpiderTales$Search"
def TX5 : u_T := fun k => match k with
  | 0 => ("SpiderTales$Search", "sky", "LSpiderTales$Sky;", true)
  | 1 => ("SpiderTales$Search", "queue", "[I", true)
  | 2 => ("SpiderTales$Search", "links", "[I", true)
  | 3 => ("SpiderTales$Search", "costs", "[I", true)
  | 4 => ("SpiderTales$Search", "seen", "[J", true)
  | 5 => ("SpiderTales$Search", "open", "[J", true)
  | 6 => ("SpiderTales$Search", "asked", "[J", true)
  | 7 => ("SpiderTales$Search", "binding", "[J", true)
  | 8 => ("SpiderTales$Search", "creature", "I", false)
  | 9 => ("SpiderTales$Search", "help", "I", false)
  | 10 => ("SpiderTales$Search", "wary", "I", false)
  | 11 => ("SpiderTales$Search", "firstBeliefs", "I", false)
  | 12 => ("SpiderTales$Search", "firstCord", "I", false)
  | 13 => ("SpiderTales$Search", "tail", "I", false)
  | 14 => ("SpiderTales$Search", "goal", "I", false)
  | 15 => ("SpiderTales$Search", "reached", "J", false)
  | _ => ("SpiderTales$Search", "worked", "I", false)
def tyX5 : Nat → FieldType := fun k => match k with
  | 0 => .object "SpiderTales$Sky"
  | 1 => .array .int
  | 2 => .array .int
  | 3 => .array .int
  | 4 => .array .long
  | 5 => .array .long
  | 6 => .array .long
  | 7 => .array .long
  | 8 => .int
  | 9 => .int
  | 10 => .int
  | 11 => .int
  | 12 => .int
  | 13 => .int
  | 14 => .int
  | 15 => .long
  | _ => .int
theorem nmX5 : ∀ a, a < 17 → ∀ b, b < 17 → a ≠ b → (TX5 a).2.1 ≠ (TX5 b).2.1 := by decide +kernel
theorem tyX5_ok : ∀ k, k < 17 → parseFieldDescriptor (TX5 k).2.2.1 = some (tyX5 k) := by decide +kernel
def RX6 : String := "SpiderTales$Sky"
def TX6 : u_T := fun k => match k with
  | 0 => ("SpiderTales$Sky", "creatures", "LSpiderTales$Table;", true)
  | 1 => ("SpiderTales$Sky", "tricks", "LSpiderTales$Table;", true)
  | 2 => ("SpiderTales$Sky", "hunters", "LSpiderTales$Table;", true)
  | 3 => ("SpiderTales$Sky", "tales", "LSpiderTales$Table;", true)
  | 4 => ("SpiderTales$Sky", "rule", "LSpiderTales$Rule;", true)
  | 5 => ("SpiderTales$Sky", "startCoins", "I", false)
  | _ => ("SpiderTales$Sky", "rivalDays", "I", false)
def tyX6 : Nat → FieldType := fun k => match k with
  | 0 => .object "SpiderTales$Table"
  | 1 => .object "SpiderTales$Table"
  | 2 => .object "SpiderTales$Table"
  | 3 => .object "SpiderTales$Table"
  | 4 => .object "SpiderTales$Rule"
  | 5 => .int
  | _ => .int
theorem nmX6 : ∀ a, a < 7 → ∀ b, b < 7 → a ≠ b → (TX6 a).2.1 ≠ (TX6 b).2.1 := by decide +kernel
theorem tyX6_ok : ∀ k, k < 7 → parseFieldDescriptor (TX6 k).2.2.1 = some (tyX6 k) := by decide +kernel
def RX7 : String := "SpiderTales$State"
def TX7 : u_T := fun k => match k with
  | 0 => ("SpiderTales$State", "sky", "LSpiderTales$Sky;", true)
  | _ => ("SpiderTales$State", "cells", "[I", true)
def tyX7 : Nat → FieldType := fun k => match k with
  | 0 => .object "SpiderTales$Sky"
  | _ => .array .int
theorem nmX7 : ∀ a, a < 2 → ∀ b, b < 2 → a ≠ b → (TX7 a).2.1 ≠ (TX7 b).2.1 := by decide +kernel
theorem tyX7_ok : ∀ k, k < 2 → parseFieldDescriptor (TX7 k).2.2.1 = some (tyX7 k) := by decide +kernel
def RX8 : String := "SpiderTales$Table"
def TX8 : u_T := fun k => match k with
  | 0 => ("SpiderTales$Table", "limits", "[I", true)
  | 1 => ("SpiderTales$Table", "cells", "[I", true)
  | 2 => ("SpiderTales$Table", "most", "I", true)
  | _ => ("SpiderTales$Table", "size", "I", false)
def tyX8 : Nat → FieldType := fun k => match k with
  | 0 => .array .int
  | 1 => .array .int
  | 2 => .int
  | _ => .int
theorem nmX8 : ∀ a, a < 4 → ∀ b, b < 4 → a ≠ b → (TX8 a).2.1 ≠ (TX8 b).2.1 := by decide +kernel
theorem tyX8_ok : ∀ k, k < 4 → parseFieldDescriptor (TX8 k).2.2.1 = some (tyX8 k) := by decide +kernel
def RX9 : String := "SpiderTales$Tokens"
def TX9 : u_T := fun k => match k with
  | 0 => ("SpiderTales$Tokens", "text", "[B", true)
  | 1 => ("SpiderTales$Tokens", "length", "I", false)
  | 2 => ("SpiderTales$Tokens", "start", "I", false)
  | 3 => ("SpiderTales$Tokens", "behind", "I", false)
  | 4 => ("SpiderTales$Tokens", "kind", "I", false)
  | 5 => ("SpiderTales$Tokens", "value", "I", false)
  | _ => ("SpiderTales$Tokens", "digits", "I", false)
def tyX9 : Nat → FieldType := fun k => match k with
  | 0 => .array .byte
  | 1 => .int
  | 2 => .int
  | 3 => .int
  | 4 => .int
  | 5 => .int
  | _ => .int
theorem nmX9 : ∀ a, a < 7 → ∀ b, b < 7 → a ≠ b → (TX9 a).2.1 ≠ (TX9 b).2.1 := by decide +kernel
theorem tyX9_ok : ∀ k, k < 7 → parseFieldDescriptor (TX9 k).2.2.1 = some (tyX9 k) := by decide +kernel
def RX10 : String := "SpiderTales$World"
def TX10 : u_T := fun k => match k with
  | 0 => ("SpiderTales$World", "state", "LSpiderTales$State;", true)
  | 1 => ("SpiderTales$World", "past", "[I", true)
  | 2 => ("SpiderTales$World", "oldest", "I", false)
  | 3 => ("SpiderTales$World", "acts", "I", false)
  | 4 => ("SpiderTales$World", "marks", "[I", true)
  | _ => ("SpiderTales$World", "marked", "I", false)
def tyX10 : Nat → FieldType := fun k => match k with
  | 0 => .object "SpiderTales$State"
  | 1 => .array .int
  | 2 => .int
  | 3 => .int
  | 4 => .array .int
  | _ => .int
theorem nmX10 : ∀ a, a < 6 → ∀ b, b < 6 → a ≠ b → (TX10 a).2.1 ≠ (TX10 b).2.1 := by decide +kernel
theorem tyX10_ok : ∀ k, k < 6 → parseFieldDescriptor (TX10 k).2.2.1 = some (tyX10 k) := by decide +kernel
def RX11 : String := "SpiderTales"
def TX11 : u_T := fun k => match k with
  | 0 => ("SpiderTales", "tape", "[B", true)
  | 1 => ("SpiderTales", "taped", "I", false)
  | 2 => ("SpiderTales", "faultPlace", "I", false)
  | 3 => ("SpiderTales", "refused", "[I", true)
  | 4 => ("SpiderTales", "sky", "LSpiderTales$Sky;", true)
  | 5 => ("SpiderTales", "draft", "LSpiderTales$Sky;", true)
  | 6 => ("SpiderTales", "reader", "LSpiderTales$Reader;", true)
  | 7 => ("SpiderTales", "world", "LSpiderTales$World;", true)
  | 8 => ("SpiderTales", "kept", "LSpiderTales$World;", true)
  | 9 => ("SpiderTales", "imaged", "Z", false)
  | 10 => ("SpiderTales", "search", "LSpiderTales$Search;", true)
  | 11 => ("SpiderTales", "orders", "LSpiderTales$Orders;", true)
  | 12 => ("SpiderTales", "rows", "LSpiderTales$Rows;", true)
  | _ => ("SpiderTales", "future", "LSpiderTales$Future;", true)
def tyX11 : Nat → FieldType := fun k => match k with
  | 0 => .array .byte
  | 1 => .int
  | 2 => .int
  | 3 => .array .int
  | 4 => .object "SpiderTales$Sky"
  | 5 => .object "SpiderTales$Sky"
  | 6 => .object "SpiderTales$Reader"
  | 7 => .object "SpiderTales$World"
  | 8 => .object "SpiderTales$World"
  | 9 => .boolean
  | 10 => .object "SpiderTales$Search"
  | 11 => .object "SpiderTales$Orders"
  | 12 => .object "SpiderTales$Rows"
  | _ => .object "SpiderTales$Future"
theorem nmX11 : ∀ a, a < 14 → ∀ b, b < 14 → a ≠ b → (TX11 a).2.1 ≠ (TX11 b).2.1 := by decide +kernel
theorem tyX11_ok : ∀ k, k < 14 → parseFieldDescriptor (TX11 k).2.2.1 = some (tyX11 k) := by decide +kernel
def RX12 : String := "SpiderTalesModel"
def TX12 : u_T := fun k => match k with
  | 0 => ("SpiderTalesModel", "thrown", "I", false)
  | 1 => ("SpiderTalesModel", "creatures", "I", false)
  | 2 => ("SpiderTalesModel", "tricks", "I", false)
  | 3 => ("SpiderTalesModel", "hunters", "I", false)
  | 4 => ("SpiderTalesModel", "tales", "I", false)
  | 5 => ("SpiderTalesModel", "rival", "I", false)
  | 6 => ("SpiderTalesModel", "boundAt", "I", false)
  | 7 => ("SpiderTalesModel", "strength", "[I", true)
  | 8 => ("SpiderTalesModel", "price", "[I", true)
  | 9 => ("SpiderTalesModel", "help", "[I", true)
  | 10 => ("SpiderTalesModel", "needs", "[I", true)
  | 11 => ("SpiderTalesModel", "bars", "[I", true)
  | 12 => ("SpiderTalesModel", "gives", "[I", true)
  | 13 => ("SpiderTalesModel", "takes", "[I", true)
  | 14 => ("SpiderTalesModel", "cordOf", "[I", true)
  | 15 => ("SpiderTalesModel", "cost", "[I", true)
  | 16 => ("SpiderTalesModel", "skill", "[I", true)
  | 17 => ("SpiderTalesModel", "purse", "[I", true)
  | 18 => ("SpiderTalesModel", "parts", "[I", true)
  | 19 => ("SpiderTalesModel", "code", "[I", true)
  | 20 => ("SpiderTalesModel", "tape", "[I", true)
  | 21 => ("SpiderTalesModel", "taped", "I", false)
  | 22 => ("SpiderTalesModel", "faultKind", "I", false)
  | 23 => ("SpiderTalesModel", "faultPlace", "I", false)
  | 24 => ("SpiderTalesModel", "refused", "[I", true)
  | 25 => ("SpiderTalesModel", "long1", "I", false)
  | 26 => ("SpiderTalesModel", "next0", "I", false)
  | 27 => ("SpiderTalesModel", "sort", "I", false)
  | 28 => ("SpiderTalesModel", "place", "I", false)
  | 29 => ("SpiderTalesModel", "long0", "I", false)
  | 30 => ("SpiderTalesModel", "value", "I", false)
  | 31 => ("SpiderTalesModel", "sign", "I", false)
  | 32 => ("SpiderTalesModel", "word", "J", false)
  | 33 => ("SpiderTalesModel", "newCreatures", "I", false)
  | 34 => ("SpiderTalesModel", "newTricks", "I", false)
  | 35 => ("SpiderTalesModel", "newHunters", "I", false)
  | 36 => ("SpiderTalesModel", "newTales", "I", false)
  | 37 => ("SpiderTalesModel", "newCoins", "I", false)
  | 38 => ("SpiderTalesModel", "newRival", "I", false)
  | 39 => ("SpiderTalesModel", "newBoundAt", "I", false)
  | 40 => ("SpiderTalesModel", "top", "I", false)
  | 41 => ("SpiderTalesModel", "waiting", "I", false)
  | 42 => ("SpiderTalesModel", "depth", "I", false)
  | 43 => ("SpiderTalesModel", "newStrength", "[I", true)
  | 44 => ("SpiderTalesModel", "newPrice", "[I", true)
  | 45 => ("SpiderTalesModel", "newHelp", "[I", true)
  | 46 => ("SpiderTalesModel", "newNeeds", "[I", true)
  | 47 => ("SpiderTalesModel", "newBars", "[I", true)
  | 48 => ("SpiderTalesModel", "newGives", "[I", true)
  | 49 => ("SpiderTalesModel", "newTakes", "[I", true)
  | 50 => ("SpiderTalesModel", "newCord", "[I", true)
  | 51 => ("SpiderTalesModel", "newCost", "[I", true)
  | 52 => ("SpiderTalesModel", "newSkill", "[I", true)
  | 53 => ("SpiderTalesModel", "newPurse", "[I", true)
  | 54 => ("SpiderTalesModel", "newParts", "[I", true)
  | 55 => ("SpiderTalesModel", "newRow", "[I", true)
  | 56 => ("SpiderTalesModel", "readCode", "[I", true)
  | 57 => ("SpiderTalesModel", "waits", "[I", true)
  | 58 => ("SpiderTalesModel", "tested", "[Z", true)
  | 59 => ("SpiderTalesModel", "rows", "[I", true)
  | 60 => ("SpiderTalesModel", "ahead", "[I", true)
  | 61 => ("SpiderTalesModel", "acts", "I", false)
  | 62 => ("SpiderTalesModel", "told", "[I", true)
  | 63 => ("SpiderTalesModel", "pile", "[I", true)
  | 64 => ("SpiderTalesModel", "queue", "[I", true)
  | 65 => ("SpiderTalesModel", "from", "[I", true)
  | 66 => ("SpiderTalesModel", "by", "[I", true)
  | 67 => ("SpiderTalesModel", "deep", "[I", true)
  | 68 => ("SpiderTalesModel", "price0", "[I", true)
  | 69 => ("SpiderTalesModel", "rowOf", "[I", true)
  | 70 => ("SpiderTalesModel", "come", "[Z", true)
  | 71 => ("SpiderTalesModel", "reached", "I", false)
  | 72 => ("SpiderTalesModel", "cheapest0", "I", false)
  | 73 => ("SpiderTalesModel", "isDearer", "Z", false)
  | 74 => ("SpiderTalesModel", "restOf", "[I", true)
  | 75 => ("SpiderTalesModel", "oneOf", "[I", true)
  | 76 => ("SpiderTalesModel", "marks", "I", false)
  | 77 => ("SpiderTalesModel", "mark", "[I", true)
  | 78 => ("SpiderTalesModel", "beliefsAt", "[I", true)
  | 79 => ("SpiderTalesModel", "digits", "[I", true)
  | 80 => ("SpiderTalesModel", "some", "[J", true)
  | 81 => ("SpiderTalesModel", "its", "I", false)
  | 82 => ("SpiderTalesModel", "worksSome", "I", false)
  | 83 => ("SpiderTalesModel", "hadSome", "I", false)
  | 84 => ("SpiderTalesModel", "lackedSome", "I", false)
  | 85 => ("SpiderTalesModel", "hasImage", "Z", false)
  | 86 => ("SpiderTalesModel", "imageActs", "I", false)
  | 87 => ("SpiderTalesModel", "imageMarks", "I", false)
  | 88 => ("SpiderTalesModel", "imageRow", "[I", true)
  | 89 => ("SpiderTalesModel", "imageAhead", "[I", true)
  | _ => ("SpiderTalesModel", "imageMark", "[I", true)
def tyX12 : Nat → FieldType := fun k => match k with
  | 0 => .int
  | 1 => .int
  | 2 => .int
  | 3 => .int
  | 4 => .int
  | 5 => .int
  | 6 => .int
  | 7 => .array .int
  | 8 => .array .int
  | 9 => .array .int
  | 10 => .array .int
  | 11 => .array .int
  | 12 => .array .int
  | 13 => .array .int
  | 14 => .array .int
  | 15 => .array .int
  | 16 => .array .int
  | 17 => .array .int
  | 18 => .array .int
  | 19 => .array .int
  | 20 => .array .int
  | 21 => .int
  | 22 => .int
  | 23 => .int
  | 24 => .array .int
  | 25 => .int
  | 26 => .int
  | 27 => .int
  | 28 => .int
  | 29 => .int
  | 30 => .int
  | 31 => .int
  | 32 => .long
  | 33 => .int
  | 34 => .int
  | 35 => .int
  | 36 => .int
  | 37 => .int
  | 38 => .int
  | 39 => .int
  | 40 => .int
  | 41 => .int
  | 42 => .int
  | 43 => .array .int
  | 44 => .array .int
  | 45 => .array .int
  | 46 => .array .int
  | 47 => .array .int
  | 48 => .array .int
  | 49 => .array .int
  | 50 => .array .int
  | 51 => .array .int
  | 52 => .array .int
  | 53 => .array .int
  | 54 => .array .int
  | 55 => .array .int
  | 56 => .array .int
  | 57 => .array .int
  | 58 => .array .boolean
  | 59 => .array .int
  | 60 => .array .int
  | 61 => .int
  | 62 => .array .int
  | 63 => .array .int
  | 64 => .array .int
  | 65 => .array .int
  | 66 => .array .int
  | 67 => .array .int
  | 68 => .array .int
  | 69 => .array .int
  | 70 => .array .boolean
  | 71 => .int
  | 72 => .int
  | 73 => .boolean
  | 74 => .array .int
  | 75 => .array .int
  | 76 => .int
  | 77 => .array .int
  | 78 => .array .int
  | 79 => .array .int
  | 80 => .array .long
  | 81 => .int
  | 82 => .int
  | 83 => .int
  | 84 => .int
  | 85 => .boolean
  | 86 => .int
  | 87 => .int
  | 88 => .array .int
  | 89 => .array .int
  | _ => .array .int
theorem nmX12 : ∀ a, a < 91 → ∀ b, b < 91 → a ≠ b → (TX12 a).2.1 ≠ (TX12 b).2.1 := by decide +kernel
theorem tyX12_ok : ∀ k, k < 91 → parseFieldDescriptor (TX12 k).2.2.1 = some (tyX12 k) := by decide +kernel
def RL : String := "SpiderTalesLaw"
def RJ6 : String := "java/lang/Integer"
def RJ7 : String := "java/util/Arrays"
def RJ0 : String := "java/lang/String"
def RJ1 : String := "java/lang/StringLatin1"
def RJ3 : String := "jdk/internal/util/Preconditions"
abbrev cX0_init : ByteArray := prog_2_method_1_code
def yX0_init : MethodName := ⟨RX0, "<init>", "(LSpiderTales$Sky;LSpiderTales$State;)V"⟩
abbrev cX0_stolenIn : ByteArray := prog_2_method_2_code
def yX0_stolenIn : MethodName := ⟨RX0, "stolenIn", "(I)I"⟩
abbrev cX0_whenStolen : ByteArray := prog_2_method_3_code
def yX0_whenStolen : MethodName := ⟨RX0, "whenStolen", "(I)I"⟩
abbrev cX0_bestGuard : ByteArray := prog_2_method_4_code
def yX0_bestGuard : MethodName := ⟨RX0, "bestGuard", "(I)I"⟩
abbrev cX0_keptWith : ByteArray := prog_2_method_5_code
def yX0_keptWith : MethodName := ⟨RX0, "keptWith", "(II)I"⟩
abbrev cX0_passDays : ByteArray := prog_2_method_6_code
def yX0_passDays : MethodName := ⟨RX0, "passDays", "(I)V"⟩
abbrev cX0_letSpidersGo : ByteArray := prog_2_method_7_code
def yX0_letSpidersGo : MethodName := ⟨RX0, "letSpidersGo", "(III)I"⟩
abbrev cX0_letSpiderGo : ByteArray := prog_2_method_8_code
def yX0_letSpiderGo : MethodName := ⟨RX0, "letSpiderGo", "()V"⟩
abbrev cX0_draw : ByteArray := prog_2_method_9_code
def yX0_draw : MethodName := ⟨RX0, "draw", "(I)I"⟩
abbrev cX1_init : ByteArray := prog_3_method_1_code
def yX1_init : MethodName := ⟨RX1, "<init>", "(LSpiderTales$Sky;LSpiderTales$State;LSpiderTales$Search;)V"⟩
abbrev cX1_solve : ByteArray := prog_3_method_2_code
def yX1_solve : MethodName := ⟨RX1, "solve", "(I)I"⟩
abbrev cX1_creatureOf : ByteArray := prog_3_method_3_code
def yX1_creatureOf : MethodName := ⟨RX1, "creatureOf", "(I)I"⟩
abbrev cX1_helpOf : ByteArray := prog_3_method_4_code
def yX1_helpOf : MethodName := ⟨RX1, "helpOf", "(I)I"⟩
abbrev cX1_chooseFirst : ByteArray := prog_3_method_5_code
def yX1_chooseFirst : MethodName := ⟨RX1, "chooseFirst", "(III)V"⟩
abbrev cX2_init : ByteArray := prog_4_method_1_code
def yX2_init : MethodName := ⟨RX2, "<init>", "([BLSpiderTales$Sky;)V"⟩
abbrev cX2_read : ByteArray := prog_4_method_2_code
def yX2_read : MethodName := ⟨RX2, "read", "(I)I"⟩
abbrev cX2_faultPlace : ByteArray := prog_4_method_3_code
def yX2_faultPlace : MethodName := ⟨RX2, "faultPlace", "()I"⟩
abbrev cX2_refuse : ByteArray := prog_4_method_4_code
def yX2_refuse : MethodName := ⟨RX2, "refuse", "(I)V"⟩
abbrev cX2_readRow : ByteArray := prog_4_method_5_code
def yX2_readRow : MethodName := ⟨RX2, "readRow", "(LSpiderTales$Table;)V"⟩
abbrev cX2_readCoins : ByteArray := prog_4_method_6_code
def yX2_readCoins : MethodName := ⟨RX2, "readCoins", "()V"⟩
abbrev cX2_readRival : ByteArray := prog_4_method_7_code
def yX2_readRival : MethodName := ⟨RX2, "readRival", "()V"⟩
abbrev cX2_readBound : ByteArray := prog_4_method_8_code
def yX2_readBound : MethodName := ⟨RX2, "readBound", "()V"⟩
abbrev cX2_readNumber : ByteArray := prog_4_method_9_code
def yX2_readNumber : MethodName := ⟨RX2, "readNumber", "(II)I"⟩
abbrev cX2_expect : ByteArray := prog_4_method_10_code
def yX2_expect : MethodName := ⟨RX2, "expect", "(I)V"⟩
abbrev cX2_readOr : ByteArray := prog_4_method_11_code
def yX2_readOr : MethodName := ⟨RX2, "readOr", "(I)V"⟩
abbrev cX2_canBeginExpression : ByteArray := prog_4_method_12_code
def yX2_canBeginExpression : MethodName := ⟨RX2, "canBeginExpression", "()Z"⟩
abbrev cX2_readAnd : ByteArray := prog_4_method_13_code
def yX2_readAnd : MethodName := ⟨RX2, "readAnd", "(I)V"⟩
abbrev cX2_readNot : ByteArray := prog_4_method_14_code
def yX2_readNot : MethodName := ⟨RX2, "readNot", "(I)V"⟩
abbrev cX2_readTest : ByteArray := prog_4_method_15_code
def yX2_readTest : MethodName := ⟨RX2, "readTest", "(I)V"⟩
abbrev cX2_readSum : ByteArray := prog_4_method_16_code
def yX2_readSum : MethodName := ⟨RX2, "readSum", "(I)V"⟩
abbrev cX2_readProduct : ByteArray := prog_4_method_17_code
def yX2_readProduct : MethodName := ⟨RX2, "readProduct", "(I)V"⟩
abbrev cX2_readPart : ByteArray := prog_4_method_18_code
def yX2_readPart : MethodName := ⟨RX2, "readPart", "(I)V"⟩
abbrev cX3_init : ByteArray := prog_5_method_1_code
def yX3_init : MethodName := ⟨RX3, "<init>", "(LSpiderTales$Sky;LSpiderTales$World;)V"⟩
abbrev cX3_solve : ByteArray := prog_5_method_2_code
def yX3_solve : MethodName := ⟨RX3, "solve", "(II)V"⟩
abbrev cX3_many : ByteArray := prog_5_method_3_code
def yX3_many : MethodName := ⟨RX3, "many", "()I"⟩
abbrev cX3_firstRow : ByteArray := prog_5_method_4_code
def yX3_firstRow : MethodName := ⟨RX3, "firstRow", "()I"⟩
abbrev cX3_tellingStep : ByteArray := prog_5_method_5_code
def yX3_tellingStep : MethodName := ⟨RX3, "tellingStep", "()I"⟩
abbrev cX3_unlikeBehind : ByteArray := prog_5_method_6_code
def yX3_unlikeBehind : MethodName := ⟨RX3, "unlikeBehind", "(I)I"⟩
abbrev cX3_behindTry : ByteArray := prog_5_method_7_code
def yX3_behindTry : MethodName := ⟨RX3, "behindTry", "(II)I"⟩
abbrev cX3_behind : ByteArray := prog_5_method_8_code
def yX3_behind : MethodName := ⟨RX3, "behind", "(J)J"⟩
abbrev cX3_waysFrom : ByteArray := prog_5_method_9_code
def yX3_waysFrom : MethodName := ⟨RX3, "waysFrom", "(II)I"⟩
abbrev cX3_firstTrick : ByteArray := prog_5_method_10_code
def yX3_firstTrick : MethodName := ⟨RX3, "firstTrick", "(II)I"⟩
abbrev cX4_init : ByteArray := prog_6_method_1_code
def yX4_init : MethodName := ⟨RX4, "<init>", "()V"⟩
abbrev cX4_isEmpty : ByteArray := prog_6_method_2_code
def yX4_isEmpty : MethodName := ⟨RX4, "isEmpty", "()Z"⟩
abbrev cX4_clear : ByteArray := prog_6_method_3_code
def yX4_clear : MethodName := ⟨RX4, "clear", "()V"⟩
abbrev cX4_add : ByteArray := prog_6_method_4_code
def yX4_add : MethodName := ⟨RX4, "add", "(I)V"⟩
abbrev cX4_copyFrom : ByteArray := prog_6_method_5_code
def yX4_copyFrom : MethodName := ⟨RX4, "copyFrom", "(LSpiderTales$Rule;)V"⟩
abbrev cX4_worth : ByteArray := prog_6_method_6_code
def yX4_worth : MethodName := ⟨RX4, "worth", "(IIIIII)I"⟩
abbrev cX5_init : ByteArray := prog_7_method_1_code
def yX5_init : MethodName := ⟨RX5, "<init>", "(LSpiderTales$Sky;)V"⟩
abbrev cX5_startAt : ByteArray := prog_7_method_2_code
def yX5_startAt : MethodName := ⟨RX5, "startAt", "(LSpiderTales$State;II)V"⟩
abbrev cX5_spread : ByteArray := prog_7_method_3_code
def yX5_spread : MethodName := ⟨RX5, "spread", "()V"⟩
abbrev cX5_fewestTries : ByteArray := prog_7_method_4_code
def yX5_fewestTries : MethodName := ⟨RX5, "fewestTries", "()I"⟩
abbrev cX5_trickOf : ByteArray := prog_7_method_5_code
def yX5_trickOf : MethodName := ⟨RX5, "trickOf", "(II)I"⟩
abbrev cX5_reached : ByteArray := prog_7_method_6_code
def yX5_reached : MethodName := ⟨RX5, "reached", "()J"⟩
abbrev cX5_worked : ByteArray := prog_7_method_7_code
def yX5_worked : MethodName := ⟨RX5, "worked", "()I"⟩
abbrev cX5_begin : ByteArray := prog_7_method_8_code
def yX5_begin : MethodName := ⟨RX5, "begin", "()V"⟩
abbrev cX5_visit : ByteArray := prog_7_method_9_code
def yX5_visit : MethodName := ⟨RX5, "visit", "(III)V"⟩
abbrev cX5_goOnFrom : ByteArray := prog_7_method_10_code
def yX5_goOnFrom : MethodName := ⟨RX5, "goOnFrom", "(I)V"⟩
abbrev cX5_isBound : ByteArray := prog_7_method_11_code
def yX5_isBound : MethodName := ⟨RX5, "isBound", "(II)Z"⟩
abbrev cX5_leastCost : ByteArray := prog_7_method_12_code
def yX5_leastCost : MethodName := ⟨RX5, "leastCost", "()I"⟩
abbrev cX5_cheapestOpen : ByteArray := prog_7_method_13_code
def yX5_cheapestOpen : MethodName := ⟨RX5, "cheapestOpen", "(I)I"⟩
abbrev cX5_payFrom : ByteArray := prog_7_method_14_code
def yX5_payFrom : MethodName := ⟨RX5, "payFrom", "(III)I"⟩
abbrev cX5_improve : ByteArray := prog_7_method_15_code
def yX5_improve : MethodName := ⟨RX5, "improve", "(III)V"⟩
abbrev cX6_init : ByteArray := prog_8_method_1_code
def yX6_init : MethodName := ⟨RX6, "<init>", "()V"⟩
abbrev cX6_clear : ByteArray := prog_8_method_2_code
def yX6_clear : MethodName := ⟨RX6, "clear", "()V"⟩
abbrev cX6_copyFrom : ByteArray := prog_8_method_3_code
def yX6_copyFrom : MethodName := ⟨RX6, "copyFrom", "(LSpiderTales$Sky;)V"⟩
abbrev cX6_startCoins : ByteArray := prog_8_method_4_code
def yX6_startCoins : MethodName := ⟨RX6, "startCoins", "()I"⟩
abbrev cX6_setCoins : ByteArray := prog_8_method_5_code
def yX6_setCoins : MethodName := ⟨RX6, "setCoins", "(I)V"⟩
abbrev cX6_setRival : ByteArray := prog_8_method_6_code
def yX6_setRival : MethodName := ⟨RX6, "setRival", "(I)V"⟩
abbrev cX6_rivalComes : ByteArray := prog_8_method_7_code
def yX6_rivalComes : MethodName := ⟨RX6, "rivalComes", "(I)Z"⟩
abbrev cX6_works : ByteArray := prog_8_method_8_code
def yX6_works : MethodName := ⟨RX6, "works", "(II)Z"⟩
abbrev cX6_keys : ByteArray := prog_8_method_9_code
def yX6_keys : MethodName := ⟨RX6, "keys", "(I)I"⟩
abbrev cX6_beliefsBehind : ByteArray := prog_8_method_10_code
def yX6_beliefsBehind : MethodName := ⟨RX6, "beliefsBehind", "(II)I"⟩
abbrev cX6_cordBehind : ByteArray := prog_8_method_11_code
def yX6_cordBehind : MethodName := ⟨RX6, "cordBehind", "(III)I"⟩
abbrev cX6_binds : ByteArray := prog_8_method_12_code
def yX6_binds : MethodName := ⟨RX6, "binds", "(IIIII)Z"⟩
abbrev cX6_priceOf : ByteArray := prog_8_method_13_code
def yX6_priceOf : MethodName := ⟨RX6, "priceOf", "(I)I"⟩
abbrev cX6_greatestStrength : ByteArray := prog_8_method_14_code
def yX6_greatestStrength : MethodName := ⟨RX6, "greatestStrength", "(I)I"⟩
abbrev cX6_payersOf : ByteArray := prog_8_method_15_code
def yX6_payersOf : MethodName := ⟨RX6, "payersOf", "(II)I"⟩
abbrev cX6_priceForFew : ByteArray := prog_8_method_16_code
def yX6_priceForFew : MethodName := ⟨RX6, "priceForFew", "(II)I"⟩
abbrev cX6_richest : ByteArray := prog_8_method_17_code
def yX6_richest : MethodName := ⟨RX6, "richest", "(I)I"⟩
abbrev cX6_manyResting : ByteArray := prog_8_method_18_code
def yX6_manyResting : MethodName := ⟨RX6, "manyResting", "(III)I"⟩
abbrev cX6_firstResting : ByteArray := prog_8_method_19_code
def yX6_firstResting : MethodName := ⟨RX6, "firstResting", "(III)I"⟩
abbrev cX6_rests : ByteArray := prog_8_method_20_code
def yX6_rests : MethodName := ⟨RX6, "rests", "(IIIII)Z"⟩
abbrev cX6_gain : ByteArray := prog_8_method_21_code
def yX6_gain : MethodName := ⟨RX6, "gain", "(IIIII)I"⟩
abbrev cX6_fewestTales : ByteArray := prog_8_method_22_code
def yX6_fewestTales : MethodName := ⟨RX6, "fewestTales", "()I"⟩
abbrev cX6_partsOf : ByteArray := prog_8_method_23_code
def yX6_partsOf : MethodName := ⟨RX6, "partsOf", "(I)I"⟩
abbrev cX6_sharedParts : ByteArray := prog_8_method_24_code
def yX6_sharedParts : MethodName := ⟨RX6, "sharedParts", "(II)I"⟩
abbrev cX6_lender : ByteArray := prog_8_method_25_code
def yX6_lender : MethodName := ⟨RX6, "lender", "(I)I"⟩
abbrev cX6_partsAlone : ByteArray := prog_8_method_26_code
def yX6_partsAlone : MethodName := ⟨RX6, "partsAlone", "(I)I"⟩
abbrev cX6_likeCouples : ByteArray := prog_8_method_27_code
def yX6_likeCouples : MethodName := ⟨RX6, "likeCouples", "()I"⟩
abbrev cX7_init : ByteArray := prog_9_method_1_code
def yX7_init : MethodName := ⟨RX7, "<init>", "(LSpiderTales$Sky;)V"⟩
abbrev cX7_begin : ByteArray := prog_9_method_2_code
def yX7_begin : MethodName := ⟨RX7, "begin", "()V"⟩
abbrev cX7_copyFrom : ByteArray := prog_9_method_3_code
def yX7_copyFrom : MethodName := ⟨RX7, "copyFrom", "(LSpiderTales$State;)V"⟩
abbrev cX7_coins : ByteArray := prog_9_method_4_code
def yX7_coins : MethodName := ⟨RX7, "coins", "()I"⟩
abbrev cX7_setCoins : ByteArray := prog_9_method_5_code
def yX7_setCoins : MethodName := ⟨RX7, "setCoins", "(I)V"⟩
abbrev cX7_dayNow : ByteArray := prog_9_method_6_code
def yX7_dayNow : MethodName := ⟨RX7, "dayNow", "()I"⟩
abbrev cX7_guarded : ByteArray := prog_9_method_7_code
def yX7_guarded : MethodName := ⟨RX7, "guarded", "()I"⟩
abbrev cX7_setGuarded : ByteArray := prog_9_method_8_code
def yX7_setGuarded : MethodName := ⟨RX7, "setGuarded", "(I)V"⟩
abbrev cX7_beliefs : ByteArray := prog_9_method_9_code
def yX7_beliefs : MethodName := ⟨RX7, "beliefs", "(I)I"⟩
abbrev cX7_setBeliefs : ByteArray := prog_9_method_10_code
def yX7_setBeliefs : MethodName := ⟨RX7, "setBeliefs", "(II)V"⟩
abbrev cX7_wary : ByteArray := prog_9_method_11_code
def yX7_wary : MethodName := ⟨RX7, "wary", "(I)I"⟩
abbrev cX7_cordOn : ByteArray := prog_9_method_12_code
def yX7_cordOn : MethodName := ⟨RX7, "cordOn", "(I)I"⟩
abbrev cX7_fate : ByteArray := prog_9_method_13_code
def yX7_fate : MethodName := ⟨RX7, "fate", "(I)I"⟩
abbrev cX7_setCord : ByteArray := prog_9_method_14_code
def yX7_setCord : MethodName := ⟨RX7, "setCord", "(II)V"⟩
abbrev cX7_setFate : ByteArray := prog_9_method_15_code
def yX7_setFate : MethodName := ⟨RX7, "setFate", "(II)V"⟩
abbrev cX7_bitsOf : ByteArray := prog_9_method_16_code
def yX7_bitsOf : MethodName := ⟨RX7, "bitsOf", "(I)I"⟩
abbrev cX7_helpThere : ByteArray := prog_9_method_17_code
def yX7_helpThere : MethodName := ⟨RX7, "helpThere", "()I"⟩
abbrev cX7_mayTry : ByteArray := prog_9_method_18_code
def yX7_mayTry : MethodName := ⟨RX7, "mayTry", "(II)Z"⟩
abbrev cX7_tryTrick : ByteArray := prog_9_method_19_code
def yX7_tryTrick : MethodName := ⟨RX7, "tryTrick", "(II)I"⟩
abbrev cX7_passDay : ByteArray := prog_9_method_20_code
def yX7_passDay : MethodName := ⟨RX7, "passDay", "()V"⟩
abbrev cX7_stealIfRivalComes : ByteArray := prog_9_method_21_code
def yX7_stealIfRivalComes : MethodName := ⟨RX7, "stealIfRivalComes", "()V"⟩
abbrev cX8_init : ByteArray := prog_10_method_1_code
def yX8_init : MethodName := ⟨RX8, "<init>", "(I[I)V"⟩
abbrev cX8_size : ByteArray := prog_10_method_2_code
def yX8_size : MethodName := ⟨RX8, "size", "()I"⟩
abbrev cX8_width : ByteArray := prog_10_method_3_code
def yX8_width : MethodName := ⟨RX8, "width", "()I"⟩
abbrev cX8_limit : ByteArray := prog_10_method_4_code
def yX8_limit : MethodName := ⟨RX8, "limit", "(I)I"⟩
abbrev cX8_isFull : ByteArray := prog_10_method_5_code
def yX8_isFull : MethodName := ⟨RX8, "isFull", "()Z"⟩
abbrev cX8_has : ByteArray := prog_10_method_6_code
def yX8_has : MethodName := ⟨RX8, "has", "(I)Z"⟩
abbrev cX8_all : ByteArray := prog_10_method_7_code
def yX8_all : MethodName := ⟨RX8, "all", "()I"⟩
abbrev cX8_get : ByteArray := prog_10_method_8_code
def yX8_get : MethodName := ⟨RX8, "get", "(II)I"⟩
abbrev cX8_clear : ByteArray := prog_10_method_9_code
def yX8_clear : MethodName := ⟨RX8, "clear", "()V"⟩
abbrev cX8_put : ByteArray := prog_10_method_10_code
def yX8_put : MethodName := ⟨RX8, "put", "(II)V"⟩
abbrev cX8_endRow : ByteArray := prog_10_method_11_code
def yX8_endRow : MethodName := ⟨RX8, "endRow", "()V"⟩
abbrev cX8_copyFrom : ByteArray := prog_10_method_12_code
def yX8_copyFrom : MethodName := ⟨RX8, "copyFrom", "(LSpiderTales$Table;)V"⟩
abbrev cX9_init : ByteArray := prog_11_method_1_code
def yX9_init : MethodName := ⟨RX9, "<init>", "([B)V"⟩
abbrev cX9_open : ByteArray := prog_11_method_2_code
def yX9_open : MethodName := ⟨RX9, "open", "(I)V"⟩
abbrev cX9_kind : ByteArray := prog_11_method_3_code
def yX9_kind : MethodName := ⟨RX9, "kind", "()I"⟩
abbrev cX9_start : ByteArray := prog_11_method_4_code
def yX9_start : MethodName := ⟨RX9, "start", "()I"⟩
abbrev cX9_value : ByteArray := prog_11_method_5_code
def yX9_value : MethodName := ⟨RX9, "value", "()I"⟩
abbrev cX9_isWord : ByteArray := prog_11_method_6_code
def yX9_isWord : MethodName := ⟨RX9, "isWord", "()Z"⟩
abbrev cX9_isValue : ByteArray := prog_11_method_7_code
def yX9_isValue : MethodName := ⟨RX9, "isValue", "()Z"⟩
abbrev cX9_hasTooManyDigits : ByteArray := prog_11_method_8_code
def yX9_hasTooManyDigits : MethodName := ⟨RX9, "hasTooManyDigits", "()Z"⟩
abbrev cX9_step : ByteArray := prog_11_method_9_code
def yX9_step : MethodName := ⟨RX9, "step", "()V"⟩
abbrev cX9_readNumber : ByteArray := prog_11_method_10_code
def yX9_readNumber : MethodName := ⟨RX9, "readNumber", "()V"⟩
abbrev cX9_readWord : ByteArray := prog_11_method_11_code
def yX9_readWord : MethodName := ⟨RX9, "readWord", "()V"⟩
abbrev cX9_spells : ByteArray := prog_11_method_12_code
def yX9_spells : MethodName := ⟨RX9, "spells", "(Ljava/lang/String;)Z"⟩
abbrev cX9_isBlank : ByteArray := prog_11_method_13_code
def yX9_isBlank : MethodName := ⟨RX9, "isBlank", "(I)Z"⟩
abbrev cX9_isDigit : ByteArray := prog_11_method_14_code
def yX9_isDigit : MethodName := ⟨RX9, "isDigit", "(I)Z"⟩
abbrev cX9_isLetter : ByteArray := prog_11_method_15_code
def yX9_isLetter : MethodName := ⟨RX9, "isLetter", "(I)Z"⟩
abbrev cX9_isSign : ByteArray := prog_11_method_16_code
def yX9_isSign : MethodName := ⟨RX9, "isSign", "(I)Z"⟩
abbrev cX10_init : ByteArray := prog_12_method_1_code
def yX10_init : MethodName := ⟨RX10, "<init>", "(LSpiderTales$Sky;)V"⟩
abbrev cX10_begin : ByteArray := prog_12_method_2_code
def yX10_begin : MethodName := ⟨RX10, "begin", "()V"⟩
abbrev cX10_copyFrom : ByteArray := prog_12_method_3_code
def yX10_copyFrom : MethodName := ⟨RX10, "copyFrom", "(LSpiderTales$World;)V"⟩
abbrev cX10_acts : ByteArray := prog_12_method_4_code
def yX10_acts : MethodName := ⟨RX10, "acts", "()I"⟩
abbrev cX10_remember : ByteArray := prog_12_method_5_code
def yX10_remember : MethodName := ⟨RX10, "remember", "()V"⟩
abbrev cX10_takeBack : ByteArray := prog_12_method_6_code
def yX10_takeBack : MethodName := ⟨RX10, "takeBack", "()Z"⟩
abbrev cX10_marks : ByteArray := prog_12_method_7_code
def yX10_marks : MethodName := ⟨RX10, "marks", "()I"⟩
abbrev cX10_addMark : ByteArray := prog_12_method_8_code
def yX10_addMark : MethodName := ⟨RX10, "addMark", "(IIIZ)V"⟩
abbrev cX10_dropMarks : ByteArray := prog_12_method_9_code
def yX10_dropMarks : MethodName := ⟨RX10, "dropMarks", "()V"⟩
abbrev cX10_markedBeliefs : ByteArray := prog_12_method_10_code
def yX10_markedBeliefs : MethodName := ⟨RX10, "markedBeliefs", "(IIZ)I"⟩
abbrev cX11_init : ByteArray := prog_1_method_1_code
def yX11_init : MethodName := ⟨RX11, "<init>", "()V"⟩
abbrev cX11_feed : ByteArray := prog_1_method_2_code
def yX11_feed : MethodName := ⟨RX11, "feed", "(IIIII)I"⟩
abbrev cX11_putBytes : ByteArray := prog_1_method_3_code
def yX11_putBytes : MethodName := ⟨RX11, "putBytes", "(I)V"⟩
abbrev cX11_sky : ByteArray := prog_1_method_4_code
def yX11_sky : MethodName := ⟨RX11, "sky", "(I)I"⟩
abbrev cX11_fault : ByteArray := prog_1_method_5_code
def yX11_fault : MethodName := ⟨RX11, "fault", "()I"⟩
abbrev cX11_count : ByteArray := prog_1_method_6_code
def yX11_count : MethodName := ⟨RX11, "count", "(I)I"⟩
abbrev cX11_creature : ByteArray := prog_1_method_7_code
def yX11_creature : MethodName := ⟨RX11, "creature", "(II)I"⟩
abbrev cX11_trick : ByteArray := prog_1_method_8_code
def yX11_trick : MethodName := ⟨RX11, "trick", "(II)I"⟩
abbrev cX11_attempt : ByteArray := prog_1_method_9_code
def yX11_attempt : MethodName := ⟨RX11, "attempt", "(II)I"⟩
abbrev cX11_days : ByteArray := prog_1_method_10_code
def yX11_days : MethodName := ⟨RX11, "days", "(I)I"⟩
abbrev cX11_guard : ByteArray := prog_1_method_11_code
def yX11_guard : MethodName := ⟨RX11, "guard", "(I)Z"⟩
abbrev cX11_give : ByteArray := prog_1_method_12_code
def yX11_give : MethodName := ⟨RX11, "give", "(I)I"⟩
abbrev cX11_tell : ByteArray := prog_1_method_13_code
def yX11_tell : MethodName := ⟨RX11, "tell", "(IIZ)I"⟩
abbrev cX11_undo : ByteArray := prog_1_method_14_code
def yX11_undo : MethodName := ⟨RX11, "undo", "()I"⟩
abbrev cX11_plan : ByteArray := prog_1_method_15_code
def yX11_plan : MethodName := ⟨RX11, "plan", "(II)I"⟩
abbrev cX11_cheapest : ByteArray := prog_1_method_16_code
def yX11_cheapest : MethodName := ⟨RX11, "cheapest", "(I)I"⟩
abbrev cX11_canBelieve : ByteArray := prog_1_method_17_code
def yX11_canBelieve : MethodName := ⟨RX11, "canBelieve", "(III)Z"⟩
abbrev cX11_order : ByteArray := prog_1_method_18_code
def yX11_order : MethodName := ⟨RX11, "order", "(I)I"⟩
abbrev cX11_stolen : ByteArray := prog_1_method_19_code
def yX11_stolen : MethodName := ⟨RX11, "stolen", "(I)I"⟩
abbrev cX11_cord : ByteArray := prog_1_method_20_code
def yX11_cord : MethodName := ⟨RX11, "cord", "(II)I"⟩
abbrev cX11_when : ByteArray := prog_1_method_21_code
def yX11_when : MethodName := ⟨RX11, "when", "(I)I"⟩
abbrev cX11_toGuard : ByteArray := prog_1_method_22_code
def yX11_toGuard : MethodName := ⟨RX11, "toGuard", "(I)I"⟩
abbrev cX11_payers : ByteArray := prog_1_method_23_code
def yX11_payers : MethodName := ⟨RX11, "payers", "(II)I"⟩
abbrev cX11_few : ByteArray := prog_1_method_24_code
def yX11_few : MethodName := ⟨RX11, "few", "(II)I"⟩
abbrev cX11_tellers : ByteArray := prog_1_method_25_code
def yX11_tellers : MethodName := ⟨RX11, "tellers", "()I"⟩
abbrev cX11_borrowed : ByteArray := prog_1_method_26_code
def yX11_borrowed : MethodName := ⟨RX11, "borrowed", "(II)I"⟩
abbrev cX11_mark : ByteArray := prog_1_method_27_code
def yX11_mark : MethodName := ⟨RX11, "mark", "(IIIZ)I"⟩
abbrev cX11_forget : ByteArray := prog_1_method_28_code
def yX11_forget : MethodName := ⟨RX11, "forget", "()V"⟩
abbrev cX11_how : ByteArray := prog_1_method_29_code
def yX11_how : MethodName := ⟨RX11, "how", "(III)I"⟩
abbrev cX11_next : ByteArray := prog_1_method_30_code
def yX11_next : MethodName := ⟨RX11, "next", "(III)I"⟩
abbrev cX11_game : ByteArray := prog_1_method_31_code
def yX11_game : MethodName := ⟨RX11, "game", "(IIII)I"⟩
abbrev cX11_spiders : ByteArray := prog_1_method_32_code
def yX11_spiders : MethodName := ⟨RX11, "spiders", "(III)I"⟩
abbrev cX11_fooled : ByteArray := prog_1_method_33_code
def yX11_fooled : MethodName := ⟨RX11, "fooled", "(I)I"⟩
abbrev cX11_lacking : ByteArray := prog_1_method_34_code
def yX11_lacking : MethodName := ⟨RX11, "lacking", "(II)I"⟩
abbrev cX11_useless : ByteArray := prog_1_method_35_code
def yX11_useless : MethodName := ⟨RX11, "useless", "()I"⟩
abbrev cX11_firm : ByteArray := prog_1_method_36_code
def yX11_firm : MethodName := ⟨RX11, "firm", "(I)I"⟩
abbrev cX11_loot : ByteArray := prog_1_method_37_code
def yX11_loot : MethodName := ⟨RX11, "loot", "(I)I"⟩
abbrev cX11_offer : ByteArray := prog_1_method_38_code
def yX11_offer : MethodName := ⟨RX11, "offer", "(II)I"⟩
abbrev cX11_alone : ByteArray := prog_1_method_39_code
def yX11_alone : MethodName := ⟨RX11, "alone", "(I)I"⟩
abbrev cX11_like : ByteArray := prog_1_method_40_code
def yX11_like : MethodName := ⟨RX11, "like", "()I"⟩
abbrev cX11_nearest : ByteArray := prog_1_method_41_code
def yX11_nearest : MethodName := ⟨RX11, "nearest", "()I"⟩
abbrev cX11_image : ByteArray := prog_1_method_42_code
def yX11_image : MethodName := ⟨RX11, "image", "()V"⟩
abbrev cX11_restore : ByteArray := prog_1_method_43_code
def yX11_restore : MethodName := ⟨RX11, "restore", "()Z"⟩
abbrev cX11_isFree : ByteArray := prog_1_method_44_code
def yX11_isFree : MethodName := ⟨RX11, "isFree", "(I)Z"⟩
abbrev cX11_refuseAct : ByteArray := prog_1_method_45_code
def yX11_refuseAct : MethodName := ⟨RX11, "refuseAct", "()I"⟩
abbrev cX11_fewestNow : ByteArray := prog_1_method_46_code
def yX11_fewestNow : MethodName := ⟨RX11, "fewestNow", "(I)I"⟩
abbrev cX11_spreadFrom : ByteArray := prog_1_method_47_code
def yX11_spreadFrom : MethodName := ⟨RX11, "spreadFrom", "(I)V"⟩
abbrev cX11_isBeliefSet : ByteArray := prog_1_method_48_code
def yX11_isBeliefSet : MethodName := ⟨RX11, "isBeliefSet", "(I)Z"⟩
abbrev cX11_setsWith : ByteArray := prog_1_method_49_code
def yX11_setsWith : MethodName := ⟨RX11, "setsWith", "(II)J"⟩
abbrev cX11_checkCreature : ByteArray := prog_1_method_50_code
def yX11_checkCreature : MethodName := ⟨RX11, "checkCreature", "(I)V"⟩
abbrev cX11_checkTrick : ByteArray := prog_1_method_51_code
def yX11_checkTrick : MethodName := ⟨RX11, "checkTrick", "(I)V"⟩
abbrev cX11_checkHunter : ByteArray := prog_1_method_52_code
def yX11_checkHunter : MethodName := ⟨RX11, "checkHunter", "(I)V"⟩
abbrev cX11_checkTale : ByteArray := prog_1_method_53_code
def yX11_checkTale : MethodName := ⟨RX11, "checkTale", "(I)V"⟩
abbrev cX11_checkBelief : ByteArray := prog_1_method_54_code
def yX11_checkBelief : MethodName := ⟨RX11, "checkBelief", "(I)V"⟩
abbrev cX11_checkWhat : ByteArray := prog_1_method_55_code
def yX11_checkWhat : MethodName := ⟨RX11, "checkWhat", "(II)V"⟩
abbrev cX11_checkTries : ByteArray := prog_1_method_56_code
def yX11_checkTries : MethodName := ⟨RX11, "checkTries", "(I)V"⟩
abbrev cX11_checkAhead : ByteArray := prog_1_method_57_code
def yX11_checkAhead : MethodName := ⟨RX11, "checkAhead", "(II)V"⟩
abbrev cX11_checkCreatureSet : ByteArray := prog_1_method_58_code
def yX11_checkCreatureSet : MethodName := ⟨RX11, "checkCreatureSet", "(I)V"⟩
abbrev cX12_init : ByteArray := prog_14_method_1_code
def yX12_init : MethodName := ⟨RX12, "<init>", "()V"⟩
abbrev cX12_thrown : ByteArray := prog_14_method_2_code
def yX12_thrown : MethodName := ⟨RX12, "thrown", "()I"⟩
abbrev cX12_right : ByteArray := prog_14_method_3_code
def yX12_right : MethodName := ⟨RX12, "right", "(ZI)Z"⟩
abbrev cX12_within : ByteArray := prog_14_method_4_code
def yX12_within : MethodName := ⟨RX12, "within", "(III)Z"⟩
abbrev cX12_lesser : ByteArray := prog_14_method_5_code
def yX12_lesser : MethodName := ⟨RX12, "lesser", "(II)I"⟩
abbrev cX12_copies : ByteArray := prog_14_method_6_code
def yX12_copies : MethodName := ⟨RX12, "copies", "([I[I)V"⟩
abbrev cX12_bits : ByteArray := prog_14_method_7_code
def yX12_bits : MethodName := ⟨RX12, "bits", "(I)I"⟩
abbrev cX12_feed : ByteArray := prog_14_method_8_code
def yX12_feed : MethodName := ⟨RX12, "feed", "(IIIII)I"⟩
abbrev cX12_lays : ByteArray := prog_14_method_9_code
def yX12_lays : MethodName := ⟨RX12, "lays", "(I)V"⟩
abbrev cX12_byteAt : ByteArray := prog_14_method_10_code
def yX12_byteAt : MethodName := ⟨RX12, "byteAt", "(I)I"⟩
abbrev cX12_isLetter : ByteArray := prog_14_method_11_code
def yX12_isLetter : MethodName := ⟨RX12, "isLetter", "(I)Z"⟩
abbrev cX12_isDigit : ByteArray := prog_14_method_12_code
def yX12_isDigit : MethodName := ⟨RX12, "isDigit", "(I)Z"⟩
abbrev cX12_goes : ByteArray := prog_14_method_13_code
def yX12_goes : MethodName := ⟨RX12, "goes", "()V"⟩
abbrev cX12_spelled : ByteArray := prog_14_method_14_code
def yX12_spelled : MethodName := ⟨RX12, "spelled", "(IIIIIIII)J"⟩
abbrev cX12_letters : ByteArray := prog_14_method_15_code
def yX12_letters : MethodName := ⟨RX12, "letters", "(I)J"⟩
abbrev cX12_knownWord : ByteArray := prog_14_method_16_code
def yX12_knownWord : MethodName := ⟨RX12, "knownWord", "()I"⟩
abbrev cX12_wrong : ByteArray := prog_14_method_17_code
def yX12_wrong : MethodName := ⟨RX12, "wrong", "(I)V"⟩
abbrev cX12_isGood : ByteArray := prog_14_method_18_code
def yX12_isGood : MethodName := ⟨RX12, "isGood", "()Z"⟩
abbrev cX12_isSign : ByteArray := prog_14_method_19_code
def yX12_isSign : MethodName := ⟨RX12, "isSign", "(I)Z"⟩
abbrev cX12_need : ByteArray := prog_14_method_20_code
def yX12_need : MethodName := ⟨RX12, "need", "(Z)V"⟩
abbrev cX12_number : ByteArray := prog_14_method_21_code
def yX12_number : MethodName := ⟨RX12, "number", "(II)I"⟩
abbrev cX12_puts : ByteArray := prog_14_method_22_code
def yX12_puts : MethodName := ⟨RX12, "puts", "(I)V"⟩
abbrev cX12_isOpen : ByteArray := prog_14_method_23_code
def yX12_isOpen : MethodName := ⟨RX12, "isOpen", "(I)Z"⟩
abbrev cX12_strength : ByteArray := prog_14_method_24_code
def yX12_strength : MethodName := ⟨RX12, "strength", "(I)I"⟩
abbrev cX12_drops : ByteArray := prog_14_method_25_code
def yX12_drops : MethodName := ⟨RX12, "drops", "(I)V"⟩
abbrev cX12_waitsFor : ByteArray := prog_14_method_26_code
def yX12_waitsFor : MethodName := ⟨RX12, "waitsFor", "(I)V"⟩
abbrev cX12_part : ByteArray := prog_14_method_27_code
def yX12_part : MethodName := ⟨RX12, "part", "()V"⟩
abbrev cX12_deeper : ByteArray := prog_14_method_28_code
def yX12_deeper : MethodName := ⟨RX12, "deeper", "()V"⟩
abbrev cX12_operand : ByteArray := prog_14_method_29_code
def yX12_operand : MethodName := ⟨RX12, "operand", "(Z)V"⟩
abbrev cX12_isOpened : ByteArray := prog_14_method_30_code
def yX12_isOpened : MethodName := ⟨RX12, "isOpened", "()Z"⟩
abbrev cX12_closes : ByteArray := prog_14_method_31_code
def yX12_closes : MethodName := ⟨RX12, "closes", "()V"⟩
abbrev cX12_expression : ByteArray := prog_14_method_32_code
def yX12_expression : MethodName := ⟨RX12, "expression", "()V"⟩
abbrev cX12_begins : ByteArray := prog_14_method_33_code
def yX12_begins : MethodName := ⟨RX12, "begins", "(ZZ)Z"⟩
abbrev cX12_readsCreature : ByteArray := prog_14_method_34_code
def yX12_readsCreature : MethodName := ⟨RX12, "readsCreature", "()V"⟩
abbrev cX12_readsTrick : ByteArray := prog_14_method_35_code
def yX12_readsTrick : MethodName := ⟨RX12, "readsTrick", "()V"⟩
abbrev cX12_readsHunter : ByteArray := prog_14_method_36_code
def yX12_readsHunter : MethodName := ⟨RX12, "readsHunter", "()V"⟩
abbrev cX12_line : ByteArray := prog_14_method_37_code
def yX12_line : MethodName := ⟨RX12, "line", "()V"⟩
abbrev cX12_sky : ByteArray := prog_14_method_38_code
def yX12_sky : MethodName := ⟨RX12, "sky", "(I)I"⟩
abbrev cX12_fault : ByteArray := prog_14_method_39_code
def yX12_fault : MethodName := ⟨RX12, "fault", "()I"⟩
abbrev cX12_keeps : ByteArray := prog_14_method_40_code
def yX12_keeps : MethodName := ⟨RX12, "keeps", "()V"⟩
abbrev cX12_refuses : ByteArray := prog_14_method_41_code
def yX12_refuses : MethodName := ⟨RX12, "refuses", "(I)I"⟩
abbrev cX12_undo : ByteArray := prog_14_method_42_code
def yX12_undo : MethodName := ⟨RX12, "undo", "()I"⟩
abbrev cX12_tries : ByteArray := prog_14_method_43_code
def yX12_tries : MethodName := ⟨RX12, "tries", "()V"⟩
abbrev cX12_works : ByteArray := prog_14_method_44_code
def yX12_works : MethodName := ⟨RX12, "works", "(III)I"⟩
abbrev cX12_reckons : ByteArray := prog_14_method_45_code
def yX12_reckons : MethodName := ⟨RX12, "reckons", "(I)I"⟩
abbrev cX12_those : ByteArray := prog_14_method_46_code
def yX12_those : MethodName := ⟨RX12, "those", "(II)I"⟩
abbrev cX12_helpOf : ByteArray := prog_14_method_47_code
def yX12_helpOf : MethodName := ⟨RX12, "helpOf", "(I)I"⟩
abbrev cX12_isBound : ByteArray := prog_14_method_48_code
def yX12_isBound : MethodName := ⟨RX12, "isBound", "(IIIII)Z"⟩
abbrev cX12_doesWork : ByteArray := prog_14_method_49_code
def yX12_doesWork : MethodName := ⟨RX12, "doesWork", "(II)Z"⟩
abbrev cX12_believes : ByteArray := prog_14_method_50_code
def yX12_believes : MethodName := ⟨RX12, "believes", "(II)I"⟩
abbrev cX12_corded : ByteArray := prog_14_method_51_code
def yX12_corded : MethodName := ⟨RX12, "corded", "(III)I"⟩
abbrev cX12_attempts : ByteArray := prog_14_method_52_code
def yX12_attempts : MethodName := ⟨RX12, "attempts", "(III)I"⟩
abbrev cX12_mayTry : ByteArray := prog_14_method_53_code
def yX12_mayTry : MethodName := ⟨RX12, "mayTry", "(III)Z"⟩
abbrev cX12_steals : ByteArray := prog_14_method_54_code
def yX12_steals : MethodName := ⟨RX12, "steals", "(I)V"⟩
abbrev cX12_dayGoes : ByteArray := prog_14_method_55_code
def yX12_dayGoes : MethodName := ⟨RX12, "dayGoes", "(I)V"⟩
abbrev cX12_count : ByteArray := prog_14_method_56_code
def yX12_count : MethodName := ⟨RX12, "count", "(I)I"⟩
abbrev cX12_isCreature : ByteArray := prog_14_method_57_code
def yX12_isCreature : MethodName := ⟨RX12, "isCreature", "(I)Z"⟩
abbrev cX12_isTrick : ByteArray := prog_14_method_58_code
def yX12_isTrick : MethodName := ⟨RX12, "isTrick", "(I)Z"⟩
abbrev cX12_isWhat : ByteArray := prog_14_method_59_code
def yX12_isWhat : MethodName := ⟨RX12, "isWhat", "(II)Z"⟩
abbrev cX12_keys : ByteArray := prog_14_method_60_code
def yX12_keys : MethodName := ⟨RX12, "keys", "(I)I"⟩
abbrev cX12_creature : ByteArray := prog_14_method_61_code
def yX12_creature : MethodName := ⟨RX12, "creature", "(II)I"⟩
abbrev cX12_trick : ByteArray := prog_14_method_62_code
def yX12_trick : MethodName := ⟨RX12, "trick", "(II)I"⟩
abbrev cX12_attempt : ByteArray := prog_14_method_63_code
def yX12_attempt : MethodName := ⟨RX12, "attempt", "(II)I"⟩
abbrev cX12_days : ByteArray := prog_14_method_64_code
def yX12_days : MethodName := ⟨RX12, "days", "(I)I"⟩
abbrev cX12_guard : ByteArray := prog_14_method_65_code
def yX12_guard : MethodName := ⟨RX12, "guard", "(I)Z"⟩
abbrev cX12_give : ByteArray := prog_14_method_66_code
def yX12_give : MethodName := ⟨RX12, "give", "(I)I"⟩
abbrev cX12_tell : ByteArray := prog_14_method_67_code
def yX12_tell : MethodName := ⟨RX12, "tell", "(IIZ)I"⟩
abbrev cX12_placeOf : ByteArray := prog_14_method_68_code
def yX12_placeOf : MethodName := ⟨RX12, "placeOf", "(II)I"⟩
abbrev cX12_comes : ByteArray := prog_14_method_69_code
def yX12_comes : MethodName := ⟨RX12, "comes", "(III)V"⟩
abbrev cX12_starts : ByteArray := prog_14_method_70_code
def yX12_starts : MethodName := ⟨RX12, "starts", "(I)V"⟩
abbrev cX12_laysRow : ByteArray := prog_14_method_71_code
def yX12_laysRow : MethodName := ⟨RX12, "laysRow", "(II)I"⟩
abbrev cX12_fewest : ByteArray := prog_14_method_72_code
def yX12_fewest : MethodName := ⟨RX12, "fewest", "(II)I"⟩
abbrev cX12_plan : ByteArray := prog_14_method_73_code
def yX12_plan : MethodName := ⟨RX12, "plan", "(II)I"⟩
abbrev cX12_cheapens : ByteArray := prog_14_method_74_code
def yX12_cheapens : MethodName := ⟨RX12, "cheapens", "(IIII)V"⟩
abbrev cX12_cheapest : ByteArray := prog_14_method_75_code
def yX12_cheapest : MethodName := ⟨RX12, "cheapest", "(I)I"⟩
abbrev cX12_canBelieve : ByteArray := prog_14_method_76_code
def yX12_canBelieve : MethodName := ⟨RX12, "canBelieve", "(III)Z"⟩
abbrev cX12_nearest : ByteArray := prog_14_method_77_code
def yX12_nearest : MethodName := ⟨RX12, "nearest", "()I"⟩
abbrev cX12_laysOrder : ByteArray := prog_14_method_78_code
def yX12_laysOrder : MethodName := ⟨RX12, "laysOrder", "(I)V"⟩
abbrev cX12_order : ByteArray := prog_14_method_79_code
def yX12_order : MethodName := ⟨RX12, "order", "(I)I"⟩
abbrev cX12_daysGo : ByteArray := prog_14_method_80_code
def yX12_daysGo : MethodName := ⟨RX12, "daysGo", "(I)V"⟩
abbrev cX12_stolen : ByteArray := prog_14_method_81_code
def yX12_stolen : MethodName := ⟨RX12, "stolen", "(I)I"⟩
abbrev cX12_cord : ByteArray := prog_14_method_82_code
def yX12_cord : MethodName := ⟨RX12, "cord", "(II)I"⟩
abbrev cX12_when : ByteArray := prog_14_method_83_code
def yX12_when : MethodName := ⟨RX12, "when", "(I)I"⟩
abbrev cX12_keptBy : ByteArray := prog_14_method_84_code
def yX12_keptBy : MethodName := ⟨RX12, "keptBy", "(II)I"⟩
abbrev cX12_toGuard : ByteArray := prog_14_method_85_code
def yX12_toGuard : MethodName := ⟨RX12, "toGuard", "(I)I"⟩
abbrev cX12_isSet : ByteArray := prog_14_method_86_code
def yX12_isSet : MethodName := ⟨RX12, "isSet", "(I)Z"⟩
abbrev cX12_payersOf : ByteArray := prog_14_method_87_code
def yX12_payersOf : MethodName := ⟨RX12, "payersOf", "(II)I"⟩
abbrev cX12_payers : ByteArray := prog_14_method_88_code
def yX12_payers : MethodName := ⟨RX12, "payers", "(II)I"⟩
abbrev cX12_few : ByteArray := prog_14_method_89_code
def yX12_few : MethodName := ⟨RX12, "few", "(II)I"⟩
abbrev cX12_partsOf : ByteArray := prog_14_method_90_code
def yX12_partsOf : MethodName := ⟨RX12, "partsOf", "(I)I"⟩
abbrev cX12_tellers : ByteArray := prog_14_method_91_code
def yX12_tellers : MethodName := ⟨RX12, "tellers", "()I"⟩
abbrev cX12_borrowed : ByteArray := prog_14_method_92_code
def yX12_borrowed : MethodName := ⟨RX12, "borrowed", "(II)I"⟩
abbrev cX12_mark : ByteArray := prog_14_method_93_code
def yX12_mark : MethodName := ⟨RX12, "mark", "(IIIZ)I"⟩
abbrev cX12_forget : ByteArray := prog_14_method_94_code
def yX12_forget : MethodName := ⟨RX12, "forget", "()V"⟩
abbrev cX12_power : ByteArray := prog_14_method_95_code
def yX12_power : MethodName := ⟨RX12, "power", "(II)I"⟩
abbrev cX12_isMarked : ByteArray := prog_14_method_96_code
def yX12_isMarked : MethodName := ⟨RX12, "isMarked", "(III)Z"⟩
abbrev cX12_rowNumber : ByteArray := prog_14_method_97_code
def yX12_rowNumber : MethodName := ⟨RX12, "rowNumber", "(I)I"⟩
abbrev cX12_isTries : ByteArray := prog_14_method_98_code
def yX12_isTries : MethodName := ⟨RX12, "isTries", "(I)Z"⟩
abbrev cX12_how : ByteArray := prog_14_method_99_code
def yX12_how : MethodName := ⟨RX12, "how", "(III)I"⟩
abbrev cX12_next : ByteArray := prog_14_method_100_code
def yX12_next : MethodName := ⟨RX12, "next", "(III)I"⟩
abbrev cX12_gains : ByteArray := prog_14_method_101_code
def yX12_gains : MethodName := ⟨RX12, "gains", "(IIIII)I"⟩
abbrev cX12_game : ByteArray := prog_14_method_102_code
def yX12_game : MethodName := ⟨RX12, "game", "(IIII)I"⟩
abbrev cX12_draw : ByteArray := prog_14_method_103_code
def yX12_draw : MethodName := ⟨RX12, "draw", "(I)I"⟩
abbrev cX12_spiderGoes : ByteArray := prog_14_method_104_code
def yX12_spiderGoes : MethodName := ⟨RX12, "spiderGoes", "()V"⟩
abbrev cX12_spiders : ByteArray := prog_14_method_105_code
def yX12_spiders : MethodName := ⟨RX12, "spiders", "(III)I"⟩
abbrev cX12_fooled : ByteArray := prog_14_method_106_code
def yX12_fooled : MethodName := ⟨RX12, "fooled", "(I)I"⟩
abbrev cX12_lacking : ByteArray := prog_14_method_107_code
def yX12_lacking : MethodName := ⟨RX12, "lacking", "(II)I"⟩
abbrev cX12_explores : ByteArray := prog_14_method_108_code
def yX12_explores : MethodName := ⟨RX12, "explores", "(I)V"⟩
abbrev cX12_useless : ByteArray := prog_14_method_109_code
def yX12_useless : MethodName := ⟨RX12, "useless", "()I"⟩
abbrev cX12_firm : ByteArray := prog_14_method_110_code
def yX12_firm : MethodName := ⟨RX12, "firm", "(I)I"⟩
abbrev cX12_loot : ByteArray := prog_14_method_111_code
def yX12_loot : MethodName := ⟨RX12, "loot", "(I)I"⟩
abbrev cX12_offer : ByteArray := prog_14_method_112_code
def yX12_offer : MethodName := ⟨RX12, "offer", "(II)I"⟩
abbrev cX12_alone : ByteArray := prog_14_method_113_code
def yX12_alone : MethodName := ⟨RX12, "alone", "(I)I"⟩
abbrev cX12_like : ByteArray := prog_14_method_114_code
def yX12_like : MethodName := ⟨RX12, "like", "()I"⟩
abbrev cX12_image : ByteArray := prog_14_method_115_code
def yX12_image : MethodName := ⟨RX12, "image", "()V"⟩
abbrev cX12_restore : ByteArray := prog_14_method_116_code
def yX12_restore : MethodName := ⟨RX12, "restore", "()Z"⟩
abbrev cL_sky : ByteArray := method_3_code
def yL_sky : MethodName := ⟨RL, "sky", "(LSpiderTales;I[J)I"⟩
abbrev cL_count : ByteArray := method_4_code
def yL_count : MethodName := ⟨RL, "count", "(LSpiderTales;I[J)I"⟩
abbrev cL_creature : ByteArray := method_5_code
def yL_creature : MethodName := ⟨RL, "creature", "(LSpiderTales;II[J)I"⟩
abbrev cL_trick : ByteArray := method_6_code
def yL_trick : MethodName := ⟨RL, "trick", "(LSpiderTales;II[J)I"⟩
abbrev cL_attempt : ByteArray := method_7_code
def yL_attempt : MethodName := ⟨RL, "attempt", "(LSpiderTales;II[J)I"⟩
abbrev cL_guard : ByteArray := method_8_code
def yL_guard : MethodName := ⟨RL, "guard", "(LSpiderTales;I[J)I"⟩
abbrev cL_tell : ByteArray := method_9_code
def yL_tell : MethodName := ⟨RL, "tell", "(LSpiderTales;IIZ[J)I"⟩
abbrev cL_plan : ByteArray := method_10_code
def yL_plan : MethodName := ⟨RL, "plan", "(LSpiderTales;II[J)I"⟩
abbrev cL_cheapest : ByteArray := method_11_code
def yL_cheapest : MethodName := ⟨RL, "cheapest", "(LSpiderTales;I[J)I"⟩
abbrev cL_canBelieve : ByteArray := method_12_code
def yL_canBelieve : MethodName := ⟨RL, "canBelieve", "(LSpiderTales;III[J)I"⟩
abbrev cL_order : ByteArray := method_13_code
def yL_order : MethodName := ⟨RL, "order", "(LSpiderTales;I[J)I"⟩
abbrev cL_stolen : ByteArray := method_14_code
def yL_stolen : MethodName := ⟨RL, "stolen", "(LSpiderTales;I[J)I"⟩
abbrev cL_cord : ByteArray := method_15_code
def yL_cord : MethodName := ⟨RL, "cord", "(LSpiderTales;II[J)I"⟩
abbrev cL_when : ByteArray := method_16_code
def yL_when : MethodName := ⟨RL, "when", "(LSpiderTales;I[J)I"⟩
abbrev cL_toGuard : ByteArray := method_17_code
def yL_toGuard : MethodName := ⟨RL, "toGuard", "(LSpiderTales;I[J)I"⟩
abbrev cL_payers : ByteArray := method_18_code
def yL_payers : MethodName := ⟨RL, "payers", "(LSpiderTales;II[J)I"⟩
abbrev cL_few : ByteArray := method_19_code
def yL_few : MethodName := ⟨RL, "few", "(LSpiderTales;II[J)I"⟩
abbrev cL_borrowed : ByteArray := method_20_code
def yL_borrowed : MethodName := ⟨RL, "borrowed", "(LSpiderTales;II[J)I"⟩
abbrev cL_mark : ByteArray := method_21_code
def yL_mark : MethodName := ⟨RL, "mark", "(LSpiderTales;IIIZ[J)I"⟩
abbrev cL_how : ByteArray := method_22_code
def yL_how : MethodName := ⟨RL, "how", "(LSpiderTales;III[J)I"⟩
abbrev cL_next : ByteArray := method_23_code
def yL_next : MethodName := ⟨RL, "next", "(LSpiderTales;III[J)I"⟩
abbrev cL_game : ByteArray := method_24_code
def yL_game : MethodName := ⟨RL, "game", "(LSpiderTales;IIII[J)I"⟩
abbrev cL_spiders : ByteArray := method_25_code
def yL_spiders : MethodName := ⟨RL, "spiders", "(LSpiderTales;III[J)I"⟩
abbrev cL_fooled : ByteArray := method_26_code
def yL_fooled : MethodName := ⟨RL, "fooled", "(LSpiderTales;I[J)I"⟩
abbrev cL_lacking : ByteArray := method_27_code
def yL_lacking : MethodName := ⟨RL, "lacking", "(LSpiderTales;II[J)I"⟩
abbrev cL_firm : ByteArray := method_28_code
def yL_firm : MethodName := ⟨RL, "firm", "(LSpiderTales;I[J)I"⟩
abbrev cL_loot : ByteArray := method_29_code
def yL_loot : MethodName := ⟨RL, "loot", "(LSpiderTales;I[J)I"⟩
abbrev cL_offer : ByteArray := method_30_code
def yL_offer : MethodName := ⟨RL, "offer", "(LSpiderTales;II[J)I"⟩
abbrev cL_alone : ByteArray := method_31_code
def yL_alone : MethodName := ⟨RL, "alone", "(LSpiderTales;I[J)I"⟩
abbrev cJ6_bitCount_0f7a4 : ByteArray := prog_20_method_49_code
def yJ6_bitCount_0f7a4 : MethodName := ⟨RJ6, "bitCount", "(I)I"⟩
abbrev cJ7_fill_d0a16 : ByteArray := prog_30_method_101_code
def yJ7_fill_d0a16 : MethodName := ⟨RJ7, "fill", "([JJ)V"⟩
abbrev cJ7_fill_53178 : ByteArray := prog_30_method_103_code
def yJ7_fill_53178 : MethodName := ⟨RJ7, "fill", "([II)V"⟩
abbrev cJ0_length_8abf5 : ByteArray := prog_23_method_54_code
def yJ0_length_8abf5 : MethodName := ⟨RJ0, "length", "()I"⟩
abbrev cJ0_charAt_5068e : ByteArray := prog_23_method_56_code
def yJ0_charAt_5068e : MethodName := ⟨RJ0, "charAt", "(I)C"⟩
abbrev cJ0_coder_7d493 : ByteArray := prog_23_method_152_code
def yJ0_coder_7d493 : MethodName := ⟨RJ0, "coder", "()B"⟩
abbrev cJ0_isLatin1_aae02 : ByteArray := prog_23_method_154_code
def yJ0_isLatin1_aae02 : MethodName := ⟨RJ0, "isLatin1", "()Z"⟩
abbrev cJ0_checkIndex_df160 : ByteArray := prog_23_method_155_code
def yJ0_checkIndex_df160 : MethodName := ⟨RJ0, "checkIndex", "(II)V"⟩
abbrev cJ1_charAt_3b067 : ByteArray := prog_24_method_2_code
def yJ1_charAt_3b067 : MethodName := ⟨RJ1, "charAt", "([BI)C"⟩
abbrev cJ3_checkIndex_8e157 : ByteArray := prog_32_method_11_code
def yJ3_checkIndex_8e157 : MethodName := ⟨RJ3, "checkIndex", "(IILjava/util/function/BiFunction;)I"⟩
abbrev vwCl : List vw_C := [(RX0, TX0, 4), (RX1, TX1, 6), (RX2, TX2, 6), (RX3, TX3, 6), (RX4, TX4, 4), (RX5, TX5, 17), (RX6, TX6, 7), (RX7, TX7, 2), (RX8, TX8, 4), (RX9, TX9, 7), (RX10, TX10, 6), (RX11, TX11, 14), (RX12, TX12, 91)]
/-- an instruction's length, of those that the abstract machine knows -/
def sa_ln (i : Instr) (n : Nat) : Bool := match i with
  | .iconst _ => n == 1
  | .lconst _ => n == 1
  | .iload_n _ => n == 1
  | .lload_n _ => n == 1
  | .aload_n _ => n == 1
  | .istore_n _ => n == 1
  | .lstore_n _ => n == 1
  | .astore_n _ => n == 1
  | .iadd => n == 1
  | .isub => n == 1
  | .imul => n == 1
  | .iand => n == 1
  | .ior => n == 1
  | .ixor => n == 1
  | .ishl => n == 1
  | .ishr => n == 1
  | .iushr => n == 1
  | .ladd => n == 1
  | .lsub => n == 1
  | .land => n == 1
  | .lor => n == 1
  | .lxor => n == 1
  | .lshl => n == 1
  | .lshr => n == 1
  | .lcmp => n == 1
  | .i2l => n == 1
  | .l2i => n == 1
  | .i2b => n == 1
  | .i2c => n == 1
  | .dup => n == 1
  | .pop => n == 1
  | .dup_x1 => n == 1
  | .dup2 => n == 1
  | .iaload => n == 1
  | .baload => n == 1
  | .laload => n == 1
  | .iastore => n == 1
  | .bastore => n == 1
  | .lastore => n == 1
  | .arraylength => n == 1
  | .idiv => n == 1
  | .irem => n == 1
  | .ireturn => n == 1
  | .lreturn => n == 1
  | .return_ => n == 1
  | .athrow => n == 1
  | .bipush _ => n == 2
  | .iload _ => n == 2
  | .lload _ => n == 2
  | .aload _ => n == 2
  | .istore _ => n == 2
  | .lstore _ => n == 2
  | .astore _ => n == 2
  | .ldc _ => n == 2
  | .newarray _ => n == 2
  | .sipush _ => n == 3
  | .iinc _ _ => n == 3
  | .getfield _ => n == 3
  | .putfield _ => n == 3
  | .getstatic _ => n == 3
  | .new _ => n == 3
  | .ldc_w _ => n == 3
  | .ldc2_w _ => n == 3
  | .goto _ => n == 3
  | .ifCond _ _ => n == 3
  | .if_icmp _ _ => n == 3
  | .invokevirtual _ => n == 3
  | .invokestatic _ => n == 3
  | .invokespecial _ => n == 3
  | .tableswitch _ _ _ _ => true
  | _ => false
end
section
set_option maxRecDepth 100000 in
def sa_k0 : List (Nat × Instr × Nat) := [(0, .aload_n 0, 1), (1, .invokespecial 3, 3), (4, .aload_n 0, 1), (5, .iconst 0, 1), (6, .putfield 9, 3), (9, .aload_n 0, 1), (10, .aload_n 1, 1), (11, .putfield 15, 3), (14, .aload_n 0, 1), (15, .aload_n 2, 1), (16, .putfield 19, 3), (19, .aload_n 0, 1), (20, .new 23, 3), (23, .dup, 1), (24, .aload_n 1, 1), (25, .invokespecial 25, 3), (28, .putfield 28, 3), (31, .return_, 1)]
set_option maxRecDepth 100000 in
theorem sa_kv0 : ∀ q ∈ sa_k0, decode cX0_init q.1 = .ok q.2 ∧ sa_ln q.2.1 q.2.2 = true := by decide +kernel
set_option maxRecDepth 100000 in
def sa_k1 : List (Nat × Instr × Nat) := [(0, .aload_n 0, 1), (1, .getfield 28, 3), (4, .aload_n 0, 1), (5, .getfield 19, 3), (8, .invokevirtual 31, 3), (11, .aload_n 0, 1), (12, .iload_n 1, 1), (13, .invokevirtual 35, 3), (16, .aload_n 0, 1), (17, .getfield 28, 3), (20, .iconst 2, 1), (21, .invokevirtual 39, 3), (24, .ireturn, 1)]
set_option maxRecDepth 100000 in
theorem sa_kv1 : ∀ q ∈ sa_k1, decode cX0_stolenIn q.1 = .ok q.2 ∧ sa_ln q.2.1 q.2.2 = true := by decide +kernel
set_option maxRecDepth 100000 in
def sa_k2 : List (Nat × Instr × Nat) := [(0, .aload_n 0, 1), (1, .getfield 28, 3), (4, .aload_n 0, 1), (5, .getfield 19, 3), (8, .invokevirtual 31, 3), (11, .iconst 0, 1), (12, .istore_n 2, 1), (13, .iload_n 2, 1), (14, .bipush 60, 2), (16, .if_icmp .gt 30, 3), (19, .aload_n 0, 1), (20, .getfield 28, 3), (23, .iload_n 1, 1), (24, .invokevirtual 43, 3), (27, .iconst 2, 1), (28, .if_icmp .ne 5, 3), (31, .iload_n 2, 1), (32, .ireturn, 1), (33, .aload_n 0, 1), (34, .getfield 28, 3), (37, .invokevirtual 46, 3), (40, .iinc 2 1, 3), (43, .goto (-30), 3), (46, .iconst (-1), 1), (47, .ireturn, 1)]
set_option maxRecDepth 100000 in
theorem sa_kv2 : ∀ q ∈ sa_k2, decode cX0_whenStolen q.1 = .ok q.2 ∧ sa_ln q.2.1 q.2.2 = true := by decide +kernel
set_option maxRecDepth 100000 in
def sa_k3 : List (Nat × Instr × Nat) := [(0, .iconst (-1), 1), (1, .istore_n 2, 1), (2, .aload_n 0, 1), (3, .iconst (-1), 1), (4, .iload_n 1, 1), (5, .invokevirtual 49, 3), (8, .istore_n 3, 1), (9, .iconst 0, 1), (10, .istore 4, 2), (12, .iload 4, 2), (14, .aload_n 0, 1), (15, .getfield 15, 3), (18, .getfield 53, 3), (21, .invokevirtual 59, 3), (24, .if_icmp .ge 43, 3), (27, .aload_n 0, 1), (28, .getfield 19, 3), (31, .iload 4, 2), (33, .invokevirtual 43, 3), (36, .iconst 1, 1), (37, .if_icmp .ne 24, 3), (40, .aload_n 0, 1), (41, .iload 4, 2), (43, .iload_n 1, 1), (44, .invokevirtual 49, 3), (47, .istore 5, 2), (49, .iload 5, 2), (51, .iload_n 3, 1), (52, .if_icmp .le 9, 3), (55, .iload 5, 2), (57, .istore_n 3, 1), (58, .iload 4, 2), (60, .istore_n 2, 1), (61, .iinc 4 1, 3), (64, .goto (-52), 3), (67, .iload_n 2, 1), (68, .ireturn, 1)]
set_option maxRecDepth 100000 in
theorem sa_kv3 : ∀ q ∈ sa_k3, decode cX0_bestGuard q.1 = .ok q.2 ∧ sa_ln q.2.1 q.2.2 = true := by decide +kernel
set_option maxRecDepth 100000 in
def sa_k4 : List (Nat × Instr × Nat) := [(0, .aload_n 0, 1), (1, .getfield 28, 3), (4, .aload_n 0, 1), (5, .getfield 19, 3), (8, .invokevirtual 31, 3), (11, .aload_n 0, 1), (12, .getfield 28, 3), (15, .iload_n 1, 1), (16, .invokevirtual 65, 3), (19, .aload_n 0, 1), (20, .iload_n 2, 1), (21, .invokevirtual 35, 3), (24, .aload_n 0, 1), (25, .getfield 15, 3), (28, .aload_n 0, 1), (29, .getfield 28, 3), (32, .iconst 1, 1), (33, .invokevirtual 39, 3), (36, .invokevirtual 68, 3), (39, .ireturn, 1)]
set_option maxRecDepth 100000 in
theorem sa_kv4 : ∀ q ∈ sa_k4, decode cX0_keptWith q.1 = .ok q.2 ∧ sa_ln q.2.1 q.2.2 = true := by decide +kernel
set_option maxRecDepth 100000 in
def sa_k5 : List (Nat × Instr × Nat) := [(0, .iconst 0, 1), (1, .istore_n 2, 1), (2, .iload_n 2, 1), (3, .iload_n 1, 1), (4, .if_icmp .ge 16, 3), (7, .aload_n 0, 1), (8, .getfield 28, 3), (11, .invokevirtual 46, 3), (14, .iinc 2 1, 3), (17, .goto (-15), 3), (20, .return_, 1)]
set_option maxRecDepth 100000 in
theorem sa_kv5 : ∀ q ∈ sa_k5, decode cX0_passDays q.1 = .ok q.2 ∧ sa_ln q.2.1 q.2.2 = true := by decide +kernel
set_option maxRecDepth 100000 in
def sa_k6 : List (Nat × Instr × Nat) := [(0, .aload_n 0, 1), (1, .iload_n 1, 1), (2, .putfield 9, 3), (5, .iconst 0, 1), (6, .istore 4, 2), (8, .iconst 0, 1), (9, .istore 5, 2), (11, .iconst 0, 1), (12, .istore 6, 2), (14, .iload 6, 2), (16, .iload_n 2, 1), (17, .if_icmp .ge 51, 3), (20, .aload_n 0, 1), (21, .invokevirtual 71, 3), (24, .iload 4, 2), (26, .aload_n 0, 1), (27, .getfield 28, 3), (30, .iload_n 3, 1), (31, .ifCond .ne 7, 3), (34, .iconst 1, 1), (35, .goto 4, 3), (38, .iconst 2, 1), (39, .invokevirtual 39, 3), (42, .invokestatic 74, 3), (45, .iadd, 1), (46, .istore 4, 2), (48, .iload 5, 2), (50, .aload_n 0, 1), (51, .getfield 28, 3), (54, .invokevirtual 79, 3), (57, .invokestatic 82, 3), (60, .istore 5, 2), (62, .iinc 6 1, 3), (65, .goto (-51), 3), (68, .iload_n 3, 1), (69, .iconst 2, 1), (70, .if_icmp .ne 8, 3), (73, .iload 5, 2), (75, .goto 5, 3), (78, .iload 4, 2), (80, .ireturn, 1)]
set_option maxRecDepth 100000 in
theorem sa_kv6 : ∀ q ∈ sa_k6, decode cX0_letSpidersGo q.1 = .ok q.2 ∧ sa_ln q.2.1 q.2.2 = true := by decide +kernel
set_option maxRecDepth 100000 in
def sa_k7 : List (Nat × Instr × Nat) := [(0, .aload_n 0, 1), (1, .getfield 28, 3), (4, .aload_n 0, 1), (5, .getfield 19, 3), (8, .invokevirtual 31, 3), (11, .iconst 0, 1), (12, .istore_n 1, 1), (13, .iload_n 1, 1), (14, .bipush 6, 2), (16, .if_icmp .ge 94, 3), (19, .aload_n 0, 1), (20, .getfield 15, 3), (23, .getfield 53, 3), (26, .invokevirtual 59, 3), (29, .ifCond .le 68, 3), (32, .aload_n 0, 1), (33, .getfield 15, 3), (36, .getfield 87, 3), (39, .invokevirtual 59, 3), (42, .ifCond .le 55, 3), (45, .aload_n 0, 1), (46, .aload_n 0, 1), (47, .getfield 15, 3), (50, .getfield 53, 3), (53, .invokevirtual 59, 3), (56, .invokevirtual 90, 3), (59, .istore_n 2, 1), (60, .aload_n 0, 1), (61, .aload_n 0, 1), (62, .getfield 15, 3), (65, .getfield 87, 3), (68, .invokevirtual 59, 3), (71, .invokevirtual 90, 3), (74, .istore_n 3, 1), (75, .aload_n 0, 1), (76, .getfield 28, 3), (79, .iload_n 2, 1), (80, .iload_n 3, 1), (81, .invokevirtual 93, 3), (84, .ifCond .eq 13, 3), (87, .aload_n 0, 1), (88, .getfield 28, 3), (91, .iload_n 2, 1), (92, .iload_n 3, 1), (93, .invokevirtual 97, 3), (96, .pop, 1), (97, .aload_n 0, 1), (98, .getfield 28, 3), (101, .invokevirtual 46, 3), (104, .iinc 1 1, 3), (107, .goto (-94), 3), (110, .return_, 1)]
set_option maxRecDepth 100000 in
theorem sa_kv7 : ∀ q ∈ sa_k7, decode cX0_letSpiderGo q.1 = .ok q.2 ∧ sa_ln q.2.1 q.2.2 = true := by decide +kernel
set_option maxRecDepth 100000 in
def sa_k8 : List (Nat × Instr × Nat) := [(0, .aload_n 0, 1), (1, .aload_n 0, 1), (2, .getfield 9, 3), (5, .ldc 100, 2), (7, .imul, 1), (8, .sipush 12345, 3), (11, .iadd, 1), (12, .putfield 9, 3), (15, .iload_n 1, 1), (16, .ifCond .le 19, 3), (19, .aload_n 0, 1), (20, .getfield 9, 3), (23, .bipush 16, 2), (25, .iushr, 1), (26, .sipush 32767, 3), (29, .iand, 1), (30, .iload_n 1, 1), (31, .irem, 1), (32, .goto 4, 3), (35, .iconst 0, 1), (36, .ireturn, 1)]
set_option maxRecDepth 100000 in
theorem sa_kv8 : ∀ q ∈ sa_k8, decode cX0_draw q.1 = .ok q.2 ∧ sa_ln q.2.1 q.2.2 = true := by decide +kernel
set_option maxRecDepth 100000 in
def sa_k9 : List (Nat × Instr × Nat) := [(0, .aload_n 0, 1), (1, .invokespecial 3, 3), (4, .aload_n 0, 1), (5, .bipush 64, 2), (7, .newarray .int, 2), (9, .putfield 11, 3), (12, .aload_n 0, 1), (13, .bipush 64, 2), (15, .newarray .int, 2), (17, .putfield 15, 3), (20, .aload_n 0, 1), (21, .sipush 330, 3), (24, .newarray .int, 2), (26, .putfield 18, 3), (29, .aload_n 0, 1), (30, .aload_n 1, 1), (31, .putfield 21, 3), (34, .aload_n 0, 1), (35, .aload_n 2, 1), (36, .putfield 25, 3), (39, .aload_n 0, 1), (40, .aload_n 3, 1), (41, .putfield 29, 3), (44, .return_, 1)]
set_option maxRecDepth 100000 in
theorem sa_kv9 : ∀ q ∈ sa_k9, decode cX1_init q.1 = .ok q.2 ∧ sa_ln q.2.1 q.2.2 = true := by decide +kernel
set_option maxRecDepth 100000 in
def sa_k10 : List (Nat × Instr × Nat) := [(0, .aload_n 0, 1), (1, .getfield 18, 3), (4, .iconst (-1), 1), (5, .invokestatic 33, 3), (8, .aload_n 0, 1), (9, .getfield 25, 3), (12, .invokevirtual 39, 3), (15, .istore_n 2, 1), (16, .iload_n 1, 1), (17, .istore_n 3, 1), (18, .iload_n 3, 1), (19, .ifCond .lt 30, 3), (22, .iload_n 3, 1), (23, .iload_n 1, 1), (24, .iconst (-1), 1), (25, .ixor, 1), (26, .iand, 1), (27, .ifCond .ne 16, 3), (30, .aload_n 0, 1), (31, .iload_n 1, 1), (32, .iload_n 3, 1), (33, .iload_n 2, 1), (34, .aload_n 0, 1), (35, .iload_n 3, 1), (36, .invokevirtual 45, 3), (39, .iadd, 1), (40, .invokevirtual 49, 3), (43, .iinc 3 (-1), 3), (46, .goto (-28), 3), (49, .aload_n 0, 1), (50, .getfield 11, 3), (53, .iconst 0, 1), (54, .iaload, 1), (55, .ireturn, 1)]
set_option maxRecDepth 100000 in
theorem sa_kv10 : ∀ q ∈ sa_k10, decode cX1_solve q.1 = .ok q.2 ∧ sa_ln q.2.1 q.2.2 = true := by decide +kernel
set_option maxRecDepth 100000 in
def sa_k11 : List (Nat × Instr × Nat) := [(0, .iconst 0, 1), (1, .istore_n 2, 1), (2, .iconst 0, 1), (3, .istore_n 3, 1), (4, .iload_n 3, 1), (5, .iload_n 1, 1), (6, .if_icmp .ge 26, 3), (9, .iload_n 3, 1), (10, .bipush 6, 2), (12, .if_icmp .ge 20, 3), (15, .iload_n 2, 1), (16, .iconst 1, 1), (17, .aload_n 0, 1), (18, .getfield 15, 3), (21, .iload_n 2, 1), (22, .iaload, 1), (23, .ishl, 1), (24, .ior, 1), (25, .istore_n 2, 1), (26, .iinc 3 1, 3), (29, .goto (-25), 3), (32, .aload_n 0, 1), (33, .getfield 15, 3), (36, .iload_n 2, 1), (37, .iaload, 1), (38, .ireturn, 1)]
set_option maxRecDepth 100000 in
theorem sa_kv11 : ∀ q ∈ sa_k11, decode cX1_creatureOf q.1 = .ok q.2 ∧ sa_ln q.2.1 q.2.2 = true := by decide +kernel
set_option maxRecDepth 100000 in
def sa_k12 : List (Nat × Instr × Nat) := [(0, .iconst 0, 1), (1, .istore_n 2, 1), (2, .iconst 0, 1), (3, .istore_n 3, 1), (4, .iload_n 3, 1), (5, .aload_n 0, 1), (6, .getfield 21, 3), (9, .getfield 53, 3), (12, .invokevirtual 59, 3), (15, .if_icmp .ge 32, 3), (18, .iload_n 1, 1), (19, .iload_n 3, 1), (20, .ishr, 1), (21, .iconst 1, 1), (22, .iand, 1), (23, .ifCond .eq 18, 3), (26, .iload_n 2, 1), (27, .aload_n 0, 1), (28, .getfield 21, 3), (31, .getfield 53, 3), (34, .iload_n 3, 1), (35, .iconst 4, 1), (36, .invokevirtual 64, 3), (39, .iadd, 1), (40, .istore_n 2, 1), (41, .iinc 3 1, 3), (44, .goto (-40), 3), (47, .iload_n 2, 1), (48, .ireturn, 1)]
set_option maxRecDepth 100000 in
theorem sa_kv12 : ∀ q ∈ sa_k12, decode cX1_helpOf q.1 = .ok q.2 ∧ sa_ln q.2.1 q.2.2 = true := by decide +kernel
set_option maxRecDepth 100000 in
def sa_k13 : List (Nat × Instr × Nat) := [(0, .iload_n 2, 1), (1, .iload_n 1, 1), (2, .if_icmp .ne 7, 3), (5, .iconst 0, 1), (6, .goto 4, 3), (9, .iconst (-1), 1), (10, .istore 4, 2), (12, .aload_n 0, 1), (13, .getfield 15, 3), (16, .iload_n 2, 1), (17, .iconst 0, 1), (18, .iastore, 1), (19, .iconst 0, 1), (20, .istore 5, 2), (22, .iload 5, 2), (24, .aload_n 0, 1), (25, .getfield 21, 3), (28, .getfield 53, 3), (31, .invokevirtual 59, 3), (34, .if_icmp .ge 144, 3), (37, .iload_n 1, 1), (38, .iload_n 2, 1), (39, .iconst (-1), 1), (40, .ixor, 1), (41, .iand, 1), (42, .iload 5, 2), (44, .ishr, 1), (45, .iconst 1, 1), (46, .iand, 1), (47, .ifCond .eq 125, 3), (50, .aload_n 0, 1), (51, .getfield 11, 3), (54, .iload_n 2, 1), (55, .iconst 1, 1), (56, .iload 5, 2), (58, .ishl, 1), (59, .ior, 1), (60, .iaload, 1), (61, .iconst (-1), 1), (62, .if_icmp .ne 6, 3), (65, .goto 107, 3), (68, .iload 5, 2), (70, .bipush 55, 2), (72, .imul, 1), (73, .iload_n 3, 1), (74, .iadd, 1), (75, .istore 6, 2), (77, .aload_n 0, 1), (78, .getfield 18, 3), (81, .iload 6, 2), (83, .iaload, 1), (84, .iconst (-1), 1), (85, .if_icmp .ne 31, 3), (88, .aload_n 0, 1), (89, .getfield 29, 3), (92, .aload_n 0, 1), (93, .getfield 25, 3), (96, .iload 5, 2), (98, .iload_n 3, 1), (99, .invokevirtual 68, 3), (102, .aload_n 0, 1), (103, .getfield 18, 3), (106, .iload 6, 2), (108, .aload_n 0, 1), (109, .getfield 29, 3), (112, .invokevirtual 74, 3), (115, .iastore, 1), (116, .aload_n 0, 1), (117, .getfield 18, 3), (120, .iload 6, 2), (122, .iaload, 1), (123, .aload_n 0, 1), (124, .getfield 11, 3), (127, .iload_n 2, 1), (128, .iconst 1, 1), (129, .iload 5, 2), (131, .ishl, 1), (132, .ior, 1), (133, .iaload, 1), (134, .iadd, 1), (135, .istore 7, 2), (137, .aload_n 0, 1), (138, .getfield 18, 3), (141, .iload 6, 2), (143, .iaload, 1), (144, .ifCond .le 28, 3), (147, .iload 4, 2), (149, .iconst (-1), 1), (150, .if_icmp .eq 10, 3), (153, .iload 7, 2), (155, .iload 4, 2), (157, .if_icmp .ge 15, 3), (160, .iload 7, 2), (162, .istore 4, 2), (164, .aload_n 0, 1), (165, .getfield 15, 3), (168, .iload_n 2, 1), (169, .iload 5, 2), (171, .iastore, 1), (172, .iinc 5 1, 3), (175, .goto (-153), 3), (178, .aload_n 0, 1), (179, .getfield 11, 3), (182, .iload_n 2, 1), (183, .iload 4, 2), (185, .iastore, 1), (186, .return_, 1)]
set_option maxRecDepth 100000 in
theorem sa_kv13 : ∀ q ∈ sa_k13, decode cX1_chooseFirst q.1 = .ok q.2 ∧ sa_ln q.2.1 q.2.2 = true := by decide +kernel
set_option maxRecDepth 100000 in
def sa_k14 : List (Nat × Instr × Nat) := [(0, .aload_n 0, 1), (1, .invokespecial 3, 3), (4, .aload_n 0, 1), (5, .iconst 0, 1), (6, .putfield 9, 3), (9, .aload_n 0, 1), (10, .iconst (-1), 1), (11, .putfield 15, 3), (14, .aload_n 0, 1), (15, .iconst 0, 1), (16, .putfield 18, 3), (19, .aload_n 0, 1), (20, .iconst 0, 1), (21, .putfield 22, 3), (24, .aload_n 0, 1), (25, .new 25, 3), (28, .dup, 1), (29, .aload_n 1, 1), (30, .invokespecial 27, 3), (33, .putfield 30, 3), (36, .aload_n 0, 1), (37, .aload_n 2, 1), (38, .putfield 34, 3), (41, .return_, 1)]
set_option maxRecDepth 100000 in
theorem sa_kv14 : ∀ q ∈ sa_k14, decode cX2_init q.1 = .ok q.2 ∧ sa_ln q.2.1 q.2.2 = true := by decide +kernel
set_option maxRecDepth 100000 in
def sa_k15 : List (Nat × Instr × Nat) := [(0, .aload_n 0, 1), (1, .iconst 0, 1), (2, .putfield 9, 3), (5, .aload_n 0, 1), (6, .iconst (-1), 1), (7, .putfield 15, 3), (10, .aload_n 0, 1), (11, .iconst 0, 1), (12, .putfield 18, 3), (15, .aload_n 0, 1), (16, .iconst 0, 1), (17, .putfield 22, 3), (20, .aload_n 0, 1), (21, .getfield 34, 3), (24, .invokevirtual 38, 3), (27, .aload_n 0, 1), (28, .getfield 30, 3), (31, .iload_n 1, 1), (32, .invokevirtual 43, 3), (35, .iconst 0, 1), (36, .istore_n 2, 1), (37, .iload_n 2, 1), (38, .sipush 700, 3), (41, .if_icmp .ge 165, 3), (44, .aload_n 0, 1), (45, .getfield 9, 3), (48, .ifCond .ne 158, 3), (51, .aload_n 0, 1), (52, .getfield 30, 3), (55, .invokevirtual 47, 3), (58, .ifCond .eq 148, 3), (61, .aload_n 0, 1), (62, .getfield 30, 3), (65, .invokevirtual 47, 3), (68, .tableswitch 121 101 107 #[44, 58, 72, 86, 100, 107, 114], 44), (112, .aload_n 0, 1), (113, .aload_n 0, 1), (114, .getfield 34, 3), (117, .getfield 50, 3), (120, .invokevirtual 54, 3), (123, .goto 71, 3), (126, .aload_n 0, 1), (127, .aload_n 0, 1), (128, .getfield 34, 3), (131, .getfield 58, 3), (134, .invokevirtual 54, 3), (137, .goto 57, 3), (140, .aload_n 0, 1), (141, .aload_n 0, 1), (142, .getfield 34, 3), (145, .getfield 61, 3), (148, .invokevirtual 54, 3), (151, .goto 43, 3), (154, .aload_n 0, 1), (155, .aload_n 0, 1), (156, .getfield 34, 3), (159, .getfield 64, 3), (162, .invokevirtual 54, 3), (165, .goto 29, 3), (168, .aload_n 0, 1), (169, .invokevirtual 67, 3), (172, .goto 22, 3), (175, .aload_n 0, 1), (176, .invokevirtual 70, 3), (179, .goto 15, 3), (182, .aload_n 0, 1), (183, .invokevirtual 73, 3), (186, .goto 8, 3), (189, .aload_n 0, 1), (190, .iconst 1, 1), (191, .invokevirtual 76, 3), (194, .aload_n 0, 1), (195, .bipush 59, 2), (197, .invokevirtual 79, 3), (200, .iinc 2 1, 3), (203, .goto (-166), 3), (206, .aload_n 0, 1), (207, .getfield 9, 3), (210, .ireturn, 1)]
set_option maxRecDepth 100000 in
theorem sa_kv15 : ∀ q ∈ sa_k15, decode cX2_read q.1 = .ok q.2 ∧ sa_ln q.2.1 q.2.2 = true := by decide +kernel
set_option maxRecDepth 100000 in
def sa_k16 : List (Nat × Instr × Nat) := [(0, .aload_n 0, 1), (1, .getfield 15, 3), (4, .ireturn, 1)]
set_option maxRecDepth 100000 in
theorem sa_kv16 : ∀ q ∈ sa_k16, decode cX2_faultPlace q.1 = .ok q.2 ∧ sa_ln q.2.1 q.2.2 = true := by decide +kernel
set_option maxRecDepth 100000 in
def sa_k17 : List (Nat × Instr × Nat) := [(0, .aload_n 0, 1), (1, .getfield 9, 3), (4, .ifCond .ne 19, 3), (7, .aload_n 0, 1), (8, .iload_n 1, 1), (9, .putfield 9, 3), (12, .aload_n 0, 1), (13, .aload_n 0, 1), (14, .getfield 30, 3), (17, .invokevirtual 82, 3), (20, .putfield 15, 3), (23, .return_, 1)]
set_option maxRecDepth 100000 in
theorem sa_kv17 : ∀ q ∈ sa_k17, decode cX2_refuse q.1 = .ok q.2 ∧ sa_ln q.2.1 q.2.2 = true := by decide +kernel
set_option maxRecDepth 100000 in
def sa_k18 : List (Nat × Instr × Nat) := [(0, .aload_n 1, 1), (1, .invokevirtual 85, 3), (4, .ifCond .eq 9, 3), (7, .aload_n 0, 1), (8, .iconst 2, 1), (9, .invokevirtual 76, 3), (12, .return_, 1), (13, .aload_n 0, 1), (14, .getfield 30, 3), (17, .invokevirtual 91, 3), (20, .iconst 0, 1), (21, .istore_n 2, 1), (22, .iload_n 2, 1), (23, .aload_n 1, 1), (24, .invokevirtual 94, 3), (27, .if_icmp .ge 31, 3), (30, .aload_n 0, 1), (31, .getfield 9, 3), (34, .ifCond .ne 24, 3), (37, .aload_n 1, 1), (38, .iload_n 2, 1), (39, .aload_n 0, 1), (40, .iconst 0, 1), (41, .aload_n 1, 1), (42, .iload_n 2, 1), (43, .invokevirtual 97, 3), (46, .invokevirtual 101, 3), (49, .invokevirtual 105, 3), (52, .iinc 2 1, 3), (55, .goto (-33), 3), (58, .aload_n 1, 1), (59, .invokevirtual 109, 3), (62, .return_, 1)]
set_option maxRecDepth 100000 in
theorem sa_kv18 : ∀ q ∈ sa_k18, decode cX2_readRow q.1 = .ok q.2 ∧ sa_ln q.2.1 q.2.2 = true := by decide +kernel
set_option maxRecDepth 100000 in
def sa_k19 : List (Nat × Instr × Nat) := [(0, .aload_n 0, 1), (1, .getfield 18, 3), (4, .ifCond .eq 9, 3), (7, .aload_n 0, 1), (8, .iconst 5, 1), (9, .invokevirtual 76, 3), (12, .return_, 1), (13, .aload_n 0, 1), (14, .iconst 1, 1), (15, .putfield 18, 3), (18, .aload_n 0, 1), (19, .getfield 30, 3), (22, .invokevirtual 91, 3), (25, .aload_n 0, 1), (26, .getfield 34, 3), (29, .aload_n 0, 1), (30, .iconst 0, 1), (31, .sipush 999, 3), (34, .invokevirtual 101, 3), (37, .invokevirtual 112, 3), (40, .return_, 1)]
set_option maxRecDepth 100000 in
theorem sa_kv19 : ∀ q ∈ sa_k19, decode cX2_readCoins q.1 = .ok q.2 ∧ sa_ln q.2.1 q.2.2 = true := by decide +kernel
set_option maxRecDepth 100000 in
def sa_k20 : List (Nat × Instr × Nat) := [(0, .aload_n 0, 1), (1, .getfield 22, 3), (4, .ifCond .eq 9, 3), (7, .aload_n 0, 1), (8, .iconst 5, 1), (9, .invokevirtual 76, 3), (12, .return_, 1), (13, .aload_n 0, 1), (14, .iconst 1, 1), (15, .putfield 22, 3), (18, .aload_n 0, 1), (19, .getfield 30, 3), (22, .invokevirtual 91, 3), (25, .aload_n 0, 1), (26, .getfield 34, 3), (29, .aload_n 0, 1), (30, .iconst 1, 1), (31, .bipush 30, 2), (33, .invokevirtual 101, 3), (36, .invokevirtual 115, 3), (39, .return_, 1)]
set_option maxRecDepth 100000 in
theorem sa_kv20 : ∀ q ∈ sa_k20, decode cX2_readRival q.1 = .ok q.2 ∧ sa_ln q.2.1 q.2.2 = true := by decide +kernel
set_option maxRecDepth 100000 in
def sa_k21 : List (Nat × Instr × Nat) := [(0, .aload_n 0, 1), (1, .getfield 34, 3), (4, .getfield 118, 3), (7, .invokevirtual 122, 3), (10, .ifCond .ne 9, 3), (13, .aload_n 0, 1), (14, .iconst 5, 1), (15, .invokevirtual 76, 3), (18, .return_, 1), (19, .aload_n 0, 1), (20, .getfield 30, 3), (23, .invokevirtual 91, 3), (26, .aload_n 0, 1), (27, .iconst 0, 1), (28, .invokevirtual 127, 3), (31, .return_, 1)]
set_option maxRecDepth 100000 in
theorem sa_kv21 : ∀ q ∈ sa_k21, decode cX2_readBound q.1 = .ok q.2 ∧ sa_ln q.2.1 q.2.2 = true := by decide +kernel
set_option maxRecDepth 100000 in
def sa_k22 : List (Nat × Instr × Nat) := [(0, .aload_n 0, 1), (1, .getfield 30, 3), (4, .invokevirtual 47, 3), (7, .iconst 2, 1), (8, .if_icmp .eq 10, 3), (11, .aload_n 0, 1), (12, .iconst 1, 1), (13, .invokevirtual 76, 3), (16, .iconst 0, 1), (17, .ireturn, 1), (18, .aload_n 0, 1), (19, .getfield 30, 3), (22, .invokevirtual 130, 3), (25, .istore_n 3, 1), (26, .aload_n 0, 1), (27, .getfield 30, 3), (30, .invokevirtual 133, 3), (33, .ifCond .ne 13, 3), (36, .iload_n 3, 1), (37, .iload_n 1, 1), (38, .if_icmp .lt 8, 3), (41, .iload_n 3, 1), (42, .iload_n 2, 1), (43, .if_icmp .le 10, 3), (46, .aload_n 0, 1), (47, .iconst 2, 1), (48, .invokevirtual 76, 3), (51, .iconst 0, 1), (52, .ireturn, 1), (53, .aload_n 0, 1), (54, .getfield 30, 3), (57, .invokevirtual 91, 3), (60, .iload_n 3, 1), (61, .ireturn, 1)]
set_option maxRecDepth 100000 in
theorem sa_kv22 : ∀ q ∈ sa_k22, decode cX2_readNumber q.1 = .ok q.2 ∧ sa_ln q.2.1 q.2.2 = true := by decide +kernel
set_option maxRecDepth 100000 in
def sa_k23 : List (Nat × Instr × Nat) := [(0, .aload_n 0, 1), (1, .getfield 9, 3), (4, .ifCond .eq 4, 3), (7, .return_, 1), (8, .aload_n 0, 1), (9, .getfield 30, 3), (12, .invokevirtual 47, 3), (15, .iload_n 1, 1), (16, .if_icmp .ne 13, 3), (19, .aload_n 0, 1), (20, .getfield 30, 3), (23, .invokevirtual 91, 3), (26, .goto 8, 3), (29, .aload_n 0, 1), (30, .iconst 1, 1), (31, .invokevirtual 76, 3), (34, .return_, 1)]
set_option maxRecDepth 100000 in
theorem sa_kv23 : ∀ q ∈ sa_k23, decode cX2_expect q.1 = .ok q.2 ∧ sa_ln q.2.1 q.2.2 = true := by decide +kernel
set_option maxRecDepth 100000 in
def sa_k24 : List (Nat × Instr × Nat) := [(0, .iload_n 1, 1), (1, .bipush 6, 2), (3, .if_icmp .lt 20, 3), (6, .aload_n 0, 1), (7, .aload_n 0, 1), (8, .invokevirtual 136, 3), (11, .ifCond .eq 7, 3), (14, .iconst 2, 1), (15, .goto 4, 3), (18, .iconst 1, 1), (19, .invokevirtual 76, 3), (22, .return_, 1), (23, .aload_n 0, 1), (24, .iload_n 1, 1), (25, .invokevirtual 139, 3), (28, .iconst 0, 1), (29, .istore_n 2, 1), (30, .iload_n 2, 1), (31, .sipush 700, 3), (34, .if_icmp .ge 52, 3), (37, .aload_n 0, 1), (38, .getfield 9, 3), (41, .ifCond .ne 45, 3), (44, .aload_n 0, 1), (45, .getfield 30, 3), (48, .invokevirtual 47, 3), (51, .bipush 108, 2), (53, .if_icmp .ne 33, 3), (56, .aload_n 0, 1), (57, .getfield 30, 3), (60, .invokevirtual 91, 3), (63, .aload_n 0, 1), (64, .iload_n 1, 1), (65, .invokevirtual 139, 3), (68, .aload_n 0, 1), (69, .getfield 34, 3), (72, .getfield 118, 3), (75, .bipush (-10), 2), (77, .invokevirtual 142, 3), (80, .iinc 2 1, 3), (83, .goto (-53), 3), (86, .return_, 1)]
set_option maxRecDepth 100000 in
theorem sa_kv24 : ∀ q ∈ sa_k24, decode cX2_readOr q.1 = .ok q.2 ∧ sa_ln q.2.1 q.2.2 = true := by decide +kernel
set_option maxRecDepth 100000 in
def sa_k25 : List (Nat × Instr × Nat) := [(0, .aload_n 0, 1), (1, .getfield 30, 3), (4, .invokevirtual 47, 3), (7, .iconst 2, 1), (8, .if_icmp .eq 25, 3), (11, .aload_n 0, 1), (12, .getfield 30, 3), (15, .invokevirtual 145, 3), (18, .ifCond .ne 15, 3), (21, .aload_n 0, 1), (22, .getfield 30, 3), (25, .invokevirtual 47, 3), (28, .bipush 40, 2), (30, .if_icmp .ne 7, 3), (33, .iconst 1, 1), (34, .goto 4, 3), (37, .iconst 0, 1), (38, .ireturn, 1)]
set_option maxRecDepth 100000 in
theorem sa_kv25 : ∀ q ∈ sa_k25, decode cX2_canBeginExpression q.1 = .ok q.2 ∧ sa_ln q.2.1 q.2.2 = true := by decide +kernel
set_option maxRecDepth 100000 in
def sa_k26 : List (Nat × Instr × Nat) := [(0, .aload_n 0, 1), (1, .iload_n 1, 1), (2, .invokevirtual 148, 3), (5, .iconst 0, 1), (6, .istore_n 2, 1), (7, .iload_n 2, 1), (8, .sipush 700, 3), (11, .if_icmp .ge 52, 3), (14, .aload_n 0, 1), (15, .getfield 9, 3), (18, .ifCond .ne 45, 3), (21, .aload_n 0, 1), (22, .getfield 30, 3), (25, .invokevirtual 47, 3), (28, .bipush 109, 2), (30, .if_icmp .ne 33, 3), (33, .aload_n 0, 1), (34, .getfield 30, 3), (37, .invokevirtual 91, 3), (40, .aload_n 0, 1), (41, .iload_n 1, 1), (42, .invokevirtual 148, 3), (45, .aload_n 0, 1), (46, .getfield 34, 3), (49, .getfield 118, 3), (52, .bipush (-11), 2), (54, .invokevirtual 142, 3), (57, .iinc 2 1, 3), (60, .goto (-53), 3), (63, .return_, 1)]
set_option maxRecDepth 100000 in
theorem sa_kv26 : ∀ q ∈ sa_k26, decode cX2_readAnd q.1 = .ok q.2 ∧ sa_ln q.2.1 q.2.2 = true := by decide +kernel
set_option maxRecDepth 100000 in
def sa_k27 : List (Nat × Instr × Nat) := [(0, .iconst 0, 1), (1, .istore_n 2, 1), (2, .iload_n 2, 1), (3, .bipush 6, 2), (5, .if_icmp .ge 28, 3), (8, .aload_n 0, 1), (9, .getfield 30, 3), (12, .invokevirtual 47, 3), (15, .bipush 110, 2), (17, .if_icmp .ne 16, 3), (20, .aload_n 0, 1), (21, .getfield 30, 3), (24, .invokevirtual 91, 3), (27, .iinc 2 1, 3), (30, .goto (-28), 3), (33, .iload_n 2, 1), (34, .bipush 6, 2), (36, .if_icmp .ne 21, 3), (39, .aload_n 0, 1), (40, .getfield 30, 3), (43, .invokevirtual 47, 3), (46, .bipush 110, 2), (48, .if_icmp .ne 9, 3), (51, .aload_n 0, 1), (52, .iconst 2, 1), (53, .invokevirtual 76, 3), (56, .return_, 1), (57, .aload_n 0, 1), (58, .iload_n 1, 1), (59, .invokevirtual 151, 3), (62, .iconst 0, 1), (63, .istore_n 3, 1), (64, .iload_n 3, 1), (65, .iload_n 2, 1), (66, .if_icmp .ge 21, 3), (69, .aload_n 0, 1), (70, .getfield 34, 3), (73, .getfield 118, 3), (76, .bipush (-12), 2), (78, .invokevirtual 142, 3), (81, .iinc 3 1, 3), (84, .goto (-20), 3), (87, .return_, 1)]
set_option maxRecDepth 100000 in
theorem sa_kv27 : ∀ q ∈ sa_k27, decode cX2_readNot q.1 = .ok q.2 ∧ sa_ln q.2.1 q.2.2 = true := by decide +kernel
set_option maxRecDepth 100000 in
def sa_k28 : List (Nat × Instr × Nat) := [(0, .aload_n 0, 1), (1, .iload_n 1, 1), (2, .invokevirtual 154, 3), (5, .aload_n 0, 1), (6, .getfield 30, 3), (9, .invokevirtual 47, 3), (12, .istore_n 2, 1), (13, .aload_n 0, 1), (14, .getfield 9, 3), (17, .ifCond .ne 50, 3), (20, .iload_n 2, 1), (21, .bipush 60, 2), (23, .if_icmp .eq 9, 3), (26, .iload_n 2, 1), (27, .bipush 61, 2), (29, .if_icmp .ne 38, 3), (32, .aload_n 0, 1), (33, .getfield 30, 3), (36, .invokevirtual 91, 3), (39, .aload_n 0, 1), (40, .iload_n 1, 1), (41, .invokevirtual 154, 3), (44, .aload_n 0, 1), (45, .getfield 34, 3), (48, .getfield 118, 3), (51, .iload_n 2, 1), (52, .bipush 60, 2), (54, .if_icmp .ne 8, 3), (57, .bipush (-13), 2), (59, .goto 5, 3), (62, .bipush (-14), 2), (64, .invokevirtual 142, 3), (67, .return_, 1)]
set_option maxRecDepth 100000 in
theorem sa_kv28 : ∀ q ∈ sa_k28, decode cX2_readTest q.1 = .ok q.2 ∧ sa_ln q.2.1 q.2.2 = true := by decide +kernel
set_option maxRecDepth 100000 in
def sa_k29 : List (Nat × Instr × Nat) := [(0, .aload_n 0, 1), (1, .iload_n 1, 1), (2, .invokevirtual 157, 3), (5, .iconst 0, 1), (6, .istore_n 2, 1), (7, .iload_n 2, 1), (8, .sipush 700, 3), (11, .if_icmp .ge 72, 3), (14, .aload_n 0, 1), (15, .getfield 9, 3), (18, .ifCond .ne 65, 3), (21, .aload_n 0, 1), (22, .getfield 30, 3), (25, .invokevirtual 47, 3), (28, .istore_n 3, 1), (29, .iload_n 3, 1), (30, .bipush 43, 2), (32, .if_icmp .eq 10, 3), (35, .iload_n 3, 1), (36, .bipush 45, 2), (38, .if_icmp .eq 4, 3), (41, .return_, 1), (42, .aload_n 0, 1), (43, .getfield 30, 3), (46, .invokevirtual 91, 3), (49, .aload_n 0, 1), (50, .iload_n 1, 1), (51, .invokevirtual 157, 3), (54, .aload_n 0, 1), (55, .getfield 34, 3), (58, .getfield 118, 3), (61, .iload_n 3, 1), (62, .bipush 43, 2), (64, .if_icmp .ne 8, 3), (67, .bipush (-15), 2), (69, .goto 5, 3), (72, .bipush (-16), 2), (74, .invokevirtual 142, 3), (77, .iinc 2 1, 3), (80, .goto (-73), 3), (83, .return_, 1)]
set_option maxRecDepth 100000 in
theorem sa_kv29 : ∀ q ∈ sa_k29, decode cX2_readSum q.1 = .ok q.2 ∧ sa_ln q.2.1 q.2.2 = true := by decide +kernel
set_option maxRecDepth 100000 in
def sa_k30 : List (Nat × Instr × Nat) := [(0, .aload_n 0, 1), (1, .iload_n 1, 1), (2, .invokevirtual 160, 3), (5, .iconst 0, 1), (6, .istore_n 2, 1), (7, .iload_n 2, 1), (8, .sipush 700, 3), (11, .if_icmp .ge 72, 3), (14, .aload_n 0, 1), (15, .getfield 9, 3), (18, .ifCond .ne 65, 3), (21, .aload_n 0, 1), (22, .getfield 30, 3), (25, .invokevirtual 47, 3), (28, .istore_n 3, 1), (29, .iload_n 3, 1), (30, .bipush 42, 2), (32, .if_icmp .eq 10, 3), (35, .iload_n 3, 1), (36, .bipush 47, 2), (38, .if_icmp .eq 4, 3), (41, .return_, 1), (42, .aload_n 0, 1), (43, .getfield 30, 3), (46, .invokevirtual 91, 3), (49, .aload_n 0, 1), (50, .iload_n 1, 1), (51, .invokevirtual 160, 3), (54, .aload_n 0, 1), (55, .getfield 34, 3), (58, .getfield 118, 3), (61, .iload_n 3, 1), (62, .bipush 42, 2), (64, .if_icmp .ne 8, 3), (67, .bipush (-17), 2), (69, .goto 5, 3), (72, .bipush (-18), 2), (74, .invokevirtual 142, 3), (77, .iinc 2 1, 3), (80, .goto (-73), 3), (83, .return_, 1)]
set_option maxRecDepth 100000 in
theorem sa_kv30 : ∀ q ∈ sa_k30, decode cX2_readProduct q.1 = .ok q.2 ∧ sa_ln q.2.1 q.2.2 = true := by decide +kernel
set_option maxRecDepth 100000 in
def sa_k31 : List (Nat × Instr × Nat) := [(0, .aload_n 0, 1), (1, .getfield 9, 3), (4, .ifCond .eq 4, 3), (7, .return_, 1), (8, .aload_n 0, 1), (9, .getfield 30, 3), (12, .invokevirtual 47, 3), (15, .iconst 2, 1), (16, .if_icmp .ne 23, 3), (19, .aload_n 0, 1), (20, .getfield 34, 3), (23, .getfield 118, 3), (26, .aload_n 0, 1), (27, .iconst 0, 1), (28, .ldc 165, 2), (30, .invokevirtual 101, 3), (33, .invokevirtual 142, 3), (36, .goto 103, 3), (39, .aload_n 0, 1), (40, .getfield 30, 3), (43, .invokevirtual 166, 3), (46, .ifCond .eq 35, 3), (49, .aload_n 0, 1), (50, .getfield 34, 3), (53, .getfield 118, 3), (56, .iconst (-1), 1), (57, .aload_n 0, 1), (58, .getfield 30, 3), (61, .invokevirtual 47, 3), (64, .bipush 111, 2), (66, .isub, 1), (67, .isub, 1), (68, .invokevirtual 142, 3), (71, .aload_n 0, 1), (72, .getfield 30, 3), (75, .invokevirtual 91, 3), (78, .goto 61, 3), (81, .aload_n 0, 1), (82, .getfield 30, 3), (85, .invokevirtual 145, 3), (88, .ifCond .eq 11, 3), (91, .aload_n 0, 1), (92, .iconst 3, 1), (93, .invokevirtual 76, 3), (96, .goto 43, 3), (99, .aload_n 0, 1), (100, .getfield 30, 3), (103, .invokevirtual 47, 3), (106, .bipush 40, 2), (108, .if_icmp .ne 26, 3), (111, .aload_n 0, 1), (112, .getfield 30, 3), (115, .invokevirtual 91, 3), (118, .aload_n 0, 1), (119, .iload_n 1, 1), (120, .iconst 1, 1), (121, .iadd, 1), (122, .invokevirtual 127, 3), (125, .aload_n 0, 1), (126, .bipush 41, 2), (128, .invokevirtual 79, 3), (131, .goto 8, 3), (134, .aload_n 0, 1), (135, .iconst 1, 1), (136, .invokevirtual 76, 3), (139, .return_, 1)]
set_option maxRecDepth 100000 in
theorem sa_kv31 : ∀ q ∈ sa_k31, decode cX2_readPart q.1 = .ok q.2 ∧ sa_ln q.2.1 q.2.2 = true := by decide +kernel
set_option maxRecDepth 100000 in
def sa_k32 : List (Nat × Instr × Nat) := [(0, .aload_n 0, 1), (1, .invokespecial 3, 3), (4, .aload_n 0, 1), (5, .iconst 5, 1), (6, .newarray .long, 2), (8, .putfield 9, 3), (11, .aload_n 0, 1), (12, .sipush 320, 3), (15, .newarray .int, 2), (17, .putfield 15, 3), (20, .aload_n 0, 1), (21, .iconst 0, 1), (22, .putfield 19, 3), (25, .aload_n 0, 1), (26, .iconst 0, 1), (27, .putfield 23, 3), (30, .aload_n 0, 1), (31, .aload_n 1, 1), (32, .putfield 26, 3), (35, .aload_n 0, 1), (36, .aload_n 2, 1), (37, .putfield 30, 3), (40, .return_, 1)]
set_option maxRecDepth 100000 in
theorem sa_kv32 : ∀ q ∈ sa_k32, decode cX3_init q.1 = .ok q.2 ∧ sa_ln q.2.1 q.2.2 = true := by decide +kernel
set_option maxRecDepth 100000 in
def sa_k33 : List (Nat × Instr × Nat) := [(0, .aload_n 0, 1), (1, .iconst 0, 1), (2, .iconst 4, 1), (3, .iload_n 2, 1), (4, .invokestatic 34, 3), (7, .invokestatic 40, 3), (10, .putfield 19, 3), (13, .aload_n 0, 1), (14, .aload_n 0, 1), (15, .getfield 30, 3), (18, .getfield 43, 3), (21, .iload_n 1, 1), (22, .invokevirtual 49, 3), (25, .putfield 23, 3), (28, .aload_n 0, 1), (29, .getfield 9, 3), (32, .iconst 0, 1), (33, .lconst 1, 1), (34, .aload_n 0, 1), (35, .getfield 23, 3), (38, .lshl, 1), (39, .lastore, 1), (40, .iconst 1, 1), (41, .istore_n 3, 1), (42, .iload_n 3, 1), (43, .aload_n 0, 1), (44, .getfield 19, 3), (47, .if_icmp .gt 59, 3), (50, .aload_n 0, 1), (51, .getfield 30, 3), (54, .iload_n 1, 1), (55, .iload_n 3, 1), (56, .iconst 1, 1), (57, .invokevirtual 55, 3), (60, .istore 4, 2), (62, .aload_n 0, 1), (63, .getfield 30, 3), (66, .iload_n 1, 1), (67, .iload_n 3, 1), (68, .iconst 0, 1), (69, .invokevirtual 55, 3), (72, .istore 5, 2), (74, .aload_n 0, 1), (75, .getfield 9, 3), (78, .iload_n 3, 1), (79, .aload_n 0, 1), (80, .aload_n 0, 1), (81, .getfield 9, 3), (84, .iload_n 3, 1), (85, .iconst 1, 1), (86, .isub, 1), (87, .laload, 1), (88, .invokevirtual 59, 3), (91, .iload 4, 2), (93, .iload 5, 2), (95, .invokestatic 63, 3), (98, .land, 1), (99, .lastore, 1), (100, .iinc 3 1, 3), (103, .goto (-61), 3), (106, .aload_n 0, 1), (107, .getfield 19, 3), (110, .istore_n 3, 1), (111, .iload_n 3, 1), (112, .ifCond .lt 44, 3), (115, .iconst 0, 1), (116, .istore 4, 2), (118, .iload 4, 2), (120, .bipush 64, 2), (122, .if_icmp .ge 28, 3), (125, .aload_n 0, 1), (126, .getfield 15, 3), (129, .iload_n 3, 1), (130, .bipush 64, 2), (132, .imul, 1), (133, .iload 4, 2), (135, .iadd, 1), (136, .aload_n 0, 1), (137, .iload_n 3, 1), (138, .iload 4, 2), (140, .invokevirtual 67, 3), (143, .iastore, 1), (144, .iinc 4 1, 3), (147, .goto (-29), 3), (150, .iinc 3 (-1), 3), (153, .goto (-42), 3), (156, .return_, 1)]
set_option maxRecDepth 100000 in
theorem sa_kv33 : ∀ q ∈ sa_k33, decode cX3_solve q.1 = .ok q.2 ∧ sa_ln q.2.1 q.2.2 = true := by decide +kernel
set_option maxRecDepth 100000 in
def sa_k34 : List (Nat × Instr × Nat) := [(0, .aload_n 0, 1), (1, .getfield 15, 3), (4, .aload_n 0, 1), (5, .getfield 23, 3), (8, .iaload, 1), (9, .ireturn, 1)]
set_option maxRecDepth 100000 in
theorem sa_kv34 : ∀ q ∈ sa_k34, decode cX3_many q.1 = .ok q.2 ∧ sa_ln q.2.1 q.2.2 = true := by decide +kernel
set_option maxRecDepth 100000 in
def sa_k35 : List (Nat × Instr × Nat) := [(0, .aload_n 0, 1), (1, .invokevirtual 70, 3), (4, .ifCond .ne 5, 3), (7, .iconst (-1), 1), (8, .ireturn, 1), (9, .iconst 0, 1), (10, .istore_n 1, 1), (11, .aload_n 0, 1), (12, .getfield 23, 3), (15, .istore_n 2, 1), (16, .iconst 1, 1), (17, .istore_n 3, 1), (18, .iload_n 3, 1), (19, .aload_n 0, 1), (20, .getfield 19, 3), (23, .if_icmp .gt 33, 3), (26, .aload_n 0, 1), (27, .iload_n 3, 1), (28, .iload_n 2, 1), (29, .invokevirtual 74, 3), (32, .istore 4, 2), (34, .iload_n 1, 1), (35, .bipush 10, 2), (37, .imul, 1), (38, .iload 4, 2), (40, .iadd, 1), (41, .istore_n 1, 1), (42, .aload_n 0, 1), (43, .iload 4, 2), (45, .iload_n 2, 1), (46, .invokevirtual 77, 3), (49, .istore_n 2, 1), (50, .iinc 3 1, 3), (53, .goto (-35), 3), (56, .iload_n 1, 1), (57, .ireturn, 1)]
set_option maxRecDepth 100000 in
theorem sa_kv35 : ∀ q ∈ sa_k35, decode cX3_firstRow q.1 = .ok q.2 ∧ sa_ln q.2.1 q.2.2 = true := by decide +kernel
set_option maxRecDepth 100000 in
def sa_k36 : List (Nat × Instr × Nat) := [(0, .iconst (-1), 1), (1, .istore_n 1, 1), (2, .iconst 0, 1), (3, .istore_n 2, 1), (4, .iconst 1, 1), (5, .istore_n 3, 1), (6, .iload_n 3, 1), (7, .aload_n 0, 1), (8, .getfield 19, 3), (11, .if_icmp .gt 26, 3), (14, .aload_n 0, 1), (15, .iload_n 3, 1), (16, .invokevirtual 80, 3), (19, .iload_n 2, 1), (20, .if_icmp .le 11, 3), (23, .aload_n 0, 1), (24, .iload_n 3, 1), (25, .invokevirtual 80, 3), (28, .istore_n 2, 1), (29, .iload_n 3, 1), (30, .istore_n 1, 1), (31, .iinc 3 1, 3), (34, .goto (-28), 3), (37, .iload_n 1, 1), (38, .ireturn, 1)]
set_option maxRecDepth 100000 in
theorem sa_kv36 : ∀ q ∈ sa_k36, decode cX3_tellingStep q.1 = .ok q.2 ∧ sa_ln q.2.1 q.2.2 = true := by decide +kernel
set_option maxRecDepth 100000 in
def sa_k37 : List (Nat × Instr × Nat) := [(0, .iconst 0, 1), (1, .istore_n 2, 1), (2, .iconst 0, 1), (3, .istore_n 3, 1), (4, .iload_n 3, 1), (5, .bipush 64, 2), (7, .if_icmp .ge 26, 3), (10, .aload_n 0, 1), (11, .getfield 15, 3), (14, .iload_n 1, 1), (15, .bipush 64, 2), (17, .imul, 1), (18, .iload_n 3, 1), (19, .iadd, 1), (20, .iaload, 1), (21, .ifCond .le 6, 3), (24, .iinc 2 1, 3), (27, .iinc 3 1, 3), (30, .goto (-26), 3), (33, .iload_n 2, 1), (34, .ireturn, 1)]
set_option maxRecDepth 100000 in
theorem sa_kv37 : ∀ q ∈ sa_k37, decode cX3_unlikeBehind q.1 = .ok q.2 ∧ sa_ln q.2.1 q.2.2 = true := by decide +kernel
set_option maxRecDepth 100000 in
def sa_k38 : List (Nat × Instr × Nat) := [(0, .aload_n 0, 1), (1, .getfield 26, 3), (4, .iload_n 1, 1), (5, .iload_n 2, 1), (6, .invokevirtual 83, 3), (9, .ifCond .eq 15, 3), (12, .aload_n 0, 1), (13, .getfield 26, 3), (16, .iload_n 1, 1), (17, .iload_n 2, 1), (18, .invokevirtual 89, 3), (21, .goto 4, 3), (24, .iload_n 2, 1), (25, .ireturn, 1)]
set_option maxRecDepth 100000 in
theorem sa_kv38 : ∀ q ∈ sa_k38, decode cX3_behindTry q.1 = .ok q.2 ∧ sa_ln q.2.1 q.2.2 = true := by decide +kernel
set_option maxRecDepth 100000 in
def sa_k39 : List (Nat × Instr × Nat) := [(0, .lconst 0, 1), (1, .lstore_n 3, 1), (2, .iconst 0, 1), (3, .istore 5, 2), (5, .iload 5, 2), (7, .bipush 64, 2), (9, .if_icmp .ge 57, 3), (12, .iconst 0, 1), (13, .istore 6, 2), (15, .lload_n 1, 1), (16, .iload 5, 2), (18, .lshr, 1), (19, .lconst 1, 1), (20, .land, 1), (21, .lconst 0, 1), (22, .lcmp, 1), (23, .ifCond .eq 37, 3), (26, .iload 6, 2), (28, .aload_n 0, 1), (29, .getfield 26, 3), (32, .getfield 92, 3), (35, .invokevirtual 96, 3), (38, .if_icmp .ge 22, 3), (41, .lload_n 3, 1), (42, .lconst 1, 1), (43, .aload_n 0, 1), (44, .iload 6, 2), (46, .iload 5, 2), (48, .invokevirtual 77, 3), (51, .lshl, 1), (52, .lor, 1), (53, .lstore_n 3, 1), (54, .iinc 6 1, 3), (57, .goto (-42), 3), (60, .iinc 5 1, 3), (63, .goto (-58), 3), (66, .lload_n 3, 1), (67, .lreturn, 1)]
set_option maxRecDepth 100000 in
theorem sa_kv39 : ∀ q ∈ sa_k39, decode cX3_behind q.1 = .ok q.2 ∧ sa_ln q.2.1 q.2.2 = true := by decide +kernel
set_option maxRecDepth 100000 in
def sa_k40 : List (Nat × Instr × Nat) := [(0, .aload_n 0, 1), (1, .getfield 9, 3), (4, .iload_n 1, 1), (5, .laload, 1), (6, .iload_n 2, 1), (7, .lshr, 1), (8, .lconst 1, 1), (9, .land, 1), (10, .lconst 0, 1), (11, .lcmp, 1), (12, .ifCond .ne 5, 3), (15, .iconst 0, 1), (16, .ireturn, 1), (17, .iload_n 1, 1), (18, .aload_n 0, 1), (19, .getfield 19, 3), (22, .if_icmp .ne 5, 3), (25, .iconst 1, 1), (26, .ireturn, 1), (27, .iconst 0, 1), (28, .istore_n 3, 1), (29, .iconst 0, 1), (30, .istore 4, 2), (32, .iload 4, 2), (34, .aload_n 0, 1), (35, .getfield 26, 3), (38, .getfield 92, 3), (41, .invokevirtual 96, 3), (44, .if_icmp .ge 31, 3), (47, .iload_n 3, 1), (48, .aload_n 0, 1), (49, .getfield 15, 3), (52, .iload_n 1, 1), (53, .iconst 1, 1), (54, .iadd, 1), (55, .bipush 64, 2), (57, .imul, 1), (58, .aload_n 0, 1), (59, .iload 4, 2), (61, .iload_n 2, 1), (62, .invokevirtual 77, 3), (65, .iadd, 1), (66, .iaload, 1), (67, .iadd, 1), (68, .istore_n 3, 1), (69, .iinc 4 1, 3), (72, .goto (-40), 3), (75, .iload_n 3, 1), (76, .ireturn, 1)]
set_option maxRecDepth 100000 in
theorem sa_kv40 : ∀ q ∈ sa_k40, decode cX3_waysFrom q.1 = .ok q.2 ∧ sa_ln q.2.1 q.2.2 = true := by decide +kernel
set_option maxRecDepth 100000 in
def sa_k41 : List (Nat × Instr × Nat) := [(0, .iconst 0, 1), (1, .istore_n 3, 1), (2, .iload_n 3, 1), (3, .aload_n 0, 1), (4, .getfield 26, 3), (7, .getfield 92, 3), (10, .invokevirtual 96, 3), (13, .if_icmp .ge 30, 3), (16, .aload_n 0, 1), (17, .getfield 15, 3), (20, .iload_n 1, 1), (21, .bipush 64, 2), (23, .imul, 1), (24, .aload_n 0, 1), (25, .iload_n 3, 1), (26, .iload_n 2, 1), (27, .invokevirtual 77, 3), (30, .iadd, 1), (31, .iaload, 1), (32, .ifCond .le 5, 3), (35, .iload_n 3, 1), (36, .ireturn, 1), (37, .iinc 3 1, 3), (40, .goto (-38), 3), (43, .iconst 0, 1), (44, .ireturn, 1)]
set_option maxRecDepth 100000 in
theorem sa_kv41 : ∀ q ∈ sa_k41, decode cX3_firstTrick q.1 = .ok q.2 ∧ sa_ln q.2.1 q.2.2 = true := by decide +kernel
set_option maxRecDepth 100000 in
def sa_k42 : List (Nat × Instr × Nat) := [(0, .aload_n 0, 1), (1, .invokespecial 3, 3), (4, .aload_n 0, 1), (5, .sipush 700, 3), (8, .newarray .int, 2), (10, .putfield 9, 3), (13, .aload_n 0, 1), (14, .bipush 6, 2), (16, .newarray .int, 2), (18, .putfield 15, 3), (21, .aload_n 0, 1), (22, .bipush 40, 2), (24, .newarray .int, 2), (26, .putfield 18, 3), (29, .aload_n 0, 1), (30, .iconst 0, 1), (31, .putfield 21, 3), (34, .return_, 1)]
set_option maxRecDepth 100000 in
theorem sa_kv42 : ∀ q ∈ sa_k42, decode cX4_init q.1 = .ok q.2 ∧ sa_ln q.2.1 q.2.2 = true := by decide +kernel
set_option maxRecDepth 100000 in
def sa_k43 : List (Nat × Instr × Nat) := [(0, .aload_n 0, 1), (1, .getfield 21, 3), (4, .ifCond .ne 7, 3), (7, .iconst 1, 1), (8, .goto 4, 3), (11, .iconst 0, 1), (12, .ireturn, 1)]
set_option maxRecDepth 100000 in
theorem sa_kv43 : ∀ q ∈ sa_k43, decode cX4_isEmpty q.1 = .ok q.2 ∧ sa_ln q.2.1 q.2.2 = true := by decide +kernel
set_option maxRecDepth 100000 in
def sa_k44 : List (Nat × Instr × Nat) := [(0, .aload_n 0, 1), (1, .iconst 0, 1), (2, .putfield 21, 3), (5, .return_, 1)]
set_option maxRecDepth 100000 in
theorem sa_kv44 : ∀ q ∈ sa_k44, decode cX4_clear q.1 = .ok q.2 ∧ sa_ln q.2.1 q.2.2 = true := by decide +kernel
set_option maxRecDepth 100000 in
def sa_k45 : List (Nat × Instr × Nat) := [(0, .aload_n 0, 1), (1, .getfield 21, 3), (4, .aload_n 0, 1), (5, .getfield 9, 3), (8, .arraylength, 1), (9, .if_icmp .ge 23, 3), (12, .aload_n 0, 1), (13, .getfield 9, 3), (16, .aload_n 0, 1), (17, .getfield 21, 3), (20, .iload_n 1, 1), (21, .iastore, 1), (22, .aload_n 0, 1), (23, .dup, 1), (24, .getfield 21, 3), (27, .iconst 1, 1), (28, .iadd, 1), (29, .putfield 21, 3), (32, .return_, 1)]
set_option maxRecDepth 100000 in
theorem sa_kv45 : ∀ q ∈ sa_k45, decode cX4_add q.1 = .ok q.2 ∧ sa_ln q.2.1 q.2.2 = true := by decide +kernel
set_option maxRecDepth 100000 in
def sa_k46 : List (Nat × Instr × Nat) := [(0, .aload_n 0, 1), (1, .aload_n 1, 1), (2, .getfield 21, 3), (5, .putfield 21, 3), (8, .aload_n 1, 1), (9, .getfield 9, 3), (12, .iconst 0, 1), (13, .aload_n 0, 1), (14, .getfield 9, 3), (17, .iconst 0, 1), (18, .aload_n 0, 1), (19, .getfield 21, 3), (22, .invokestatic 25, 3), (25, .return_, 1)]
set_option maxRecDepth 100000 in
theorem sa_kv46 : ∀ q ∈ sa_k46, decode cX4_copyFrom q.1 = .ok q.2 ∧ sa_ln q.2.1 q.2.2 = true := by decide +kernel
end
section
set_option maxRecDepth 100000 in
def sa_k47 : List (Nat × Instr × Nat) := [(0, .aload_n 0, 1), (1, .getfield 15, 3), (4, .iconst 0, 1), (5, .iload_n 1, 1), (6, .iastore, 1), (7, .aload_n 0, 1), (8, .getfield 15, 3), (11, .iconst 1, 1), (12, .iload_n 2, 1), (13, .iastore, 1), (14, .aload_n 0, 1), (15, .getfield 15, 3), (18, .iconst 2, 1), (19, .iload_n 3, 1), (20, .iastore, 1), (21, .aload_n 0, 1), (22, .getfield 15, 3), (25, .iconst 3, 1), (26, .iload 4, 2), (28, .iastore, 1), (29, .aload_n 0, 1), (30, .getfield 15, 3), (33, .iconst 4, 1), (34, .iload 5, 2), (36, .iastore, 1), (37, .aload_n 0, 1), (38, .getfield 15, 3), (41, .iconst 5, 1), (42, .iload 6, 2), (44, .iastore, 1), (45, .iconst (-1), 1), (46, .istore 7, 2), (48, .iconst 0, 1), (49, .istore 8, 2), (51, .iload 8, 2), (53, .aload_n 0, 1), (54, .getfield 21, 3), (57, .if_icmp .ge 337, 3), (60, .aload_n 0, 1), (61, .getfield 9, 3), (64, .iload 8, 2), (66, .iaload, 1), (67, .istore 9, 2), (69, .iload 9, 2), (71, .bipush (-6), 2), (73, .if_icmp .lt 42, 3), (76, .iload 7, 2), (78, .bipush 39, 2), (80, .if_icmp .ge 35, 3), (83, .iinc 7 1, 3), (86, .aload_n 0, 1), (87, .getfield 18, 3), (90, .iload 7, 2), (92, .iload 9, 2), (94, .ifCond .lt 8, 3), (97, .iload 9, 2), (99, .goto 12, 3), (102, .aload_n 0, 1), (103, .getfield 15, 3), (106, .iconst (-1), 1), (107, .iload 9, 2), (109, .isub, 1), (110, .iaload, 1), (111, .iastore, 1), (112, .goto 276, 3), (115, .iload 9, 2), (117, .bipush (-12), 2), (119, .if_icmp .ne 33, 3), (122, .iload 7, 2), (124, .ifCond .lt 28, 3), (127, .aload_n 0, 1), (128, .getfield 18, 3), (131, .iload 7, 2), (133, .aload_n 0, 1), (134, .getfield 18, 3), (137, .iload 7, 2), (139, .iaload, 1), (140, .ifCond .ne 7, 3), (143, .iconst 1, 1), (144, .goto 4, 3), (147, .iconst 0, 1), (148, .iastore, 1), (149, .goto 239, 3), (152, .iload 7, 2), (154, .iconst 1, 1), (155, .if_icmp .lt 233, 3), (158, .iinc 7 (-1), 3), (161, .aload_n 0, 1), (162, .getfield 18, 3), (165, .iload 7, 2), (167, .iaload, 1), (168, .istore 10, 2), (170, .aload_n 0, 1), (171, .getfield 18, 3), (174, .iload 7, 2), (176, .iconst 1, 1), (177, .iadd, 1), (178, .iaload, 1), (179, .istore 11, 2), (181, .iload 9, 2), (183, .tableswitch 184 (-17) (-10) #[169, 154, 139, 117, 95, 184, 70, 45], 45), (228, .aload_n 0, 1), (229, .getfield 18, 3), (232, .iload 7, 2), (234, .iload 10, 2), (236, .ifCond .ne 8, 3), (239, .iload 11, 2), (241, .ifCond .eq 7, 3), (244, .iconst 1, 1), (245, .goto 4, 3), (248, .iconst 0, 1), (249, .iastore, 1), (250, .goto 138, 3), (253, .aload_n 0, 1), (254, .getfield 18, 3), (257, .iload 7, 2), (259, .iload 10, 2), (261, .ifCond .eq 12, 3), (264, .iload 11, 2), (266, .ifCond .eq 7, 3), (269, .iconst 1, 1), (270, .goto 4, 3), (273, .iconst 0, 1), (274, .iastore, 1), (275, .goto 113, 3), (278, .aload_n 0, 1), (279, .getfield 18, 3), (282, .iload 7, 2), (284, .iload 10, 2), (286, .iload 11, 2), (288, .if_icmp .ge 7, 3), (291, .iconst 1, 1), (292, .goto 4, 3), (295, .iconst 0, 1), (296, .iastore, 1), (297, .goto 91, 3), (300, .aload_n 0, 1), (301, .getfield 18, 3), (304, .iload 7, 2), (306, .iload 10, 2), (308, .iload 11, 2), (310, .if_icmp .ne 7, 3), (313, .iconst 1, 1), (314, .goto 4, 3), (317, .iconst 0, 1), (318, .iastore, 1), (319, .goto 69, 3), (322, .aload_n 0, 1), (323, .getfield 18, 3), (326, .iload 7, 2), (328, .iload 10, 2), (330, .iload 11, 2), (332, .iadd, 1), (333, .iastore, 1), (334, .goto 54, 3), (337, .aload_n 0, 1), (338, .getfield 18, 3), (341, .iload 7, 2), (343, .iload 10, 2), (345, .iload 11, 2), (347, .isub, 1), (348, .iastore, 1), (349, .goto 39, 3), (352, .aload_n 0, 1), (353, .getfield 18, 3), (356, .iload 7, 2), (358, .iload 10, 2), (360, .iload 11, 2), (362, .imul, 1), (363, .iastore, 1), (364, .goto 24, 3), (367, .aload_n 0, 1), (368, .getfield 18, 3), (371, .iload 7, 2), (373, .iload 11, 2), (375, .ifCond .ne 7, 3), (378, .iconst 0, 1), (379, .goto 8, 3), (382, .iload 10, 2), (384, .iload 11, 2), (386, .idiv, 1), (387, .iastore, 1), (388, .iinc 8 1, 3), (391, .goto (-340), 3), (394, .iload 7, 2), (396, .ifCond .lt 13, 3), (399, .aload_n 0, 1), (400, .getfield 18, 3), (403, .iload 7, 2), (405, .iaload, 1), (406, .goto 4, 3), (409, .iconst 0, 1), (410, .ireturn, 1)]
set_option maxRecDepth 100000 in
theorem sa_kv47 : ∀ q ∈ sa_k47, decode cX4_worth q.1 = .ok q.2 ∧ sa_ln q.2.1 q.2.2 = true := by decide +kernel
set_option maxRecDepth 100000 in
def sa_k48 : List (Nat × Instr × Nat) := [(0, .aload_n 0, 1), (1, .invokespecial 5, 3), (4, .aload_n 0, 1), (5, .sipush 3904, 3), (8, .newarray .int, 2), (10, .putfield 11, 3), (13, .aload_n 0, 1), (14, .sipush 3904, 3), (17, .newarray .int, 2), (19, .putfield 15, 3), (22, .aload_n 0, 1), (23, .sipush 3904, 3), (26, .newarray .int, 2), (28, .putfield 18, 3), (31, .aload_n 0, 1), (32, .bipush 61, 2), (34, .newarray .long, 2), (36, .putfield 21, 3), (39, .aload_n 0, 1), (40, .bipush 61, 2), (42, .newarray .long, 2), (44, .putfield 25, 3), (47, .aload_n 0, 1), (48, .bipush 7, 2), (50, .newarray .long, 2), (52, .putfield 28, 3), (55, .aload_n 0, 1), (56, .bipush 7, 2), (58, .newarray .long, 2), (60, .putfield 31, 3), (63, .aload_n 0, 1), (64, .iconst 0, 1), (65, .putfield 34, 3), (68, .aload_n 0, 1), (69, .iconst 0, 1), (70, .putfield 38, 3), (73, .aload_n 0, 1), (74, .iconst 0, 1), (75, .putfield 41, 3), (78, .aload_n 0, 1), (79, .iconst 0, 1), (80, .putfield 44, 3), (83, .aload_n 0, 1), (84, .iconst 0, 1), (85, .putfield 47, 3), (88, .aload_n 0, 1), (89, .iconst 0, 1), (90, .putfield 50, 3), (93, .aload_n 0, 1), (94, .iconst (-1), 1), (95, .putfield 53, 3), (98, .aload_n 0, 1), (99, .lconst 0, 1), (100, .putfield 56, 3), (103, .aload_n 0, 1), (104, .iconst 0, 1), (105, .putfield 60, 3), (108, .aload_n 0, 1), (109, .aload_n 1, 1), (110, .putfield 63, 3), (113, .return_, 1)]
set_option maxRecDepth 100000 in
theorem sa_kv48 : ∀ q ∈ sa_k48, decode cX5_init q.1 = .ok q.2 ∧ sa_ln q.2.1 q.2.2 = true := by decide +kernel
set_option maxRecDepth 100000 in
def sa_k49 : List (Nat × Instr × Nat) := [(0, .aload_n 0, 1), (1, .iload_n 2, 1), (2, .putfield 34, 3), (5, .aload_n 0, 1), (6, .iload_n 3, 1), (7, .putfield 38, 3), (10, .aload_n 0, 1), (11, .aload_n 1, 1), (12, .iload_n 2, 1), (13, .invokevirtual 67, 3), (16, .putfield 41, 3), (19, .aload_n 0, 1), (20, .aload_n 1, 1), (21, .iload_n 2, 1), (22, .invokevirtual 72, 3), (25, .putfield 44, 3), (28, .aload_n 0, 1), (29, .aload_n 1, 1), (30, .iload_n 2, 1), (31, .invokevirtual 75, 3), (34, .putfield 47, 3), (37, .aload_n 0, 1), (38, .getfield 28, 3), (41, .lconst 0, 1), (42, .invokestatic 78, 3), (45, .aload_n 0, 1), (46, .getfield 31, 3), (49, .lconst 0, 1), (50, .invokestatic 78, 3), (53, .return_, 1)]
set_option maxRecDepth 100000 in
theorem sa_kv49 : ∀ q ∈ sa_k49, decode cX5_startAt q.1 = .ok q.2 ∧ sa_ln q.2.1 q.2.2 = true := by decide +kernel
set_option maxRecDepth 100000 in
def sa_k50 : List (Nat × Instr × Nat) := [(0, .aload_n 0, 1), (1, .invokevirtual 84, 3), (4, .iconst 0, 1), (5, .istore_n 1, 1), (6, .iload_n 1, 1), (7, .aload_n 0, 1), (8, .getfield 50, 3), (11, .if_icmp .ge 21, 3), (14, .iload_n 1, 1), (15, .sipush 3904, 3), (18, .if_icmp .ge 14, 3), (21, .aload_n 0, 1), (22, .iload_n 1, 1), (23, .invokevirtual 87, 3), (26, .iinc 1 1, 3), (29, .goto (-23), 3), (32, .return_, 1)]
set_option maxRecDepth 100000 in
theorem sa_kv50 : ∀ q ∈ sa_k50, decode cX5_spread q.1 = .ok q.2 ∧ sa_ln q.2.1 q.2.2 = true := by decide +kernel
set_option maxRecDepth 100000 in
def sa_k51 : List (Nat × Instr × Nat) := [(0, .aload_n 0, 1), (1, .invokevirtual 84, 3), (4, .iconst 0, 1), (5, .istore_n 1, 1), (6, .iload_n 1, 1), (7, .aload_n 0, 1), (8, .getfield 50, 3), (11, .if_icmp .ge 29, 3), (14, .iload_n 1, 1), (15, .sipush 3904, 3), (18, .if_icmp .ge 22, 3), (21, .aload_n 0, 1), (22, .getfield 53, 3), (25, .iconst (-1), 1), (26, .if_icmp .ne 14, 3), (29, .aload_n 0, 1), (30, .iload_n 1, 1), (31, .invokevirtual 87, 3), (34, .iinc 1 1, 3), (37, .goto (-31), 3), (40, .iconst 0, 1), (41, .istore_n 1, 1), (42, .aload_n 0, 1), (43, .getfield 53, 3), (46, .istore_n 2, 1), (47, .iload_n 2, 1), (48, .iconst (-1), 1), (49, .if_icmp .eq 25, 3), (52, .iload_n 1, 1), (53, .sipush 3904, 3), (56, .if_icmp .ge 18, 3), (59, .iinc 1 1, 3), (62, .aload_n 0, 1), (63, .getfield 15, 3), (66, .iload_n 2, 1), (67, .iconst 3, 1), (68, .ishr, 1), (69, .iaload, 1), (70, .istore_n 2, 1), (71, .goto (-24), 3), (74, .iload_n 1, 1), (75, .ireturn, 1)]
set_option maxRecDepth 100000 in
theorem sa_kv51 : ∀ q ∈ sa_k51, decode cX5_fewestTries q.1 = .ok q.2 ∧ sa_ln q.2.1 q.2.2 = true := by decide +kernel
set_option maxRecDepth 100000 in
def sa_k52 : List (Nat × Instr × Nat) := [(0, .aload_n 0, 1), (1, .getfield 53, 3), (4, .istore_n 3, 1), (5, .iload_n 2, 1), (6, .iconst 1, 1), (7, .isub, 1), (8, .istore 4, 2), (10, .iload 4, 2), (12, .iload_n 1, 1), (13, .if_icmp .le 23, 3), (16, .iload_n 3, 1), (17, .iconst (-1), 1), (18, .if_icmp .eq 18, 3), (21, .aload_n 0, 1), (22, .getfield 15, 3), (25, .iload_n 3, 1), (26, .iconst 3, 1), (27, .ishr, 1), (28, .iaload, 1), (29, .istore_n 3, 1), (30, .iinc 4 (-1), 3), (33, .goto (-23), 3), (36, .iload_n 3, 1), (37, .bipush 7, 2), (39, .iand, 1), (40, .ireturn, 1)]
set_option maxRecDepth 100000 in
theorem sa_kv52 : ∀ q ∈ sa_k52, decode cX5_trickOf q.1 = .ok q.2 ∧ sa_ln q.2.1 q.2.2 = true := by decide +kernel
set_option maxRecDepth 100000 in
def sa_k53 : List (Nat × Instr × Nat) := [(0, .aload_n 0, 1), (1, .getfield 56, 3), (4, .lreturn, 1)]
set_option maxRecDepth 100000 in
theorem sa_kv53 : ∀ q ∈ sa_k53, decode cX5_reached q.1 = .ok q.2 ∧ sa_ln q.2.1 q.2.2 = true := by decide +kernel
set_option maxRecDepth 100000 in
def sa_k54 : List (Nat × Instr × Nat) := [(0, .aload_n 0, 1), (1, .getfield 60, 3), (4, .ireturn, 1)]
set_option maxRecDepth 100000 in
theorem sa_kv54 : ∀ q ∈ sa_k54, decode cX5_worked q.1 = .ok q.2 ∧ sa_ln q.2.1 q.2.2 = true := by decide +kernel
set_option maxRecDepth 100000 in
def sa_k55 : List (Nat × Instr × Nat) := [(0, .aload_n 0, 1), (1, .getfield 21, 3), (4, .lconst 0, 1), (5, .invokestatic 78, 3), (8, .aload_n 0, 1), (9, .iconst 0, 1), (10, .putfield 50, 3), (13, .aload_n 0, 1), (14, .iconst (-1), 1), (15, .putfield 53, 3), (18, .aload_n 0, 1), (19, .iconst 0, 1), (20, .putfield 60, 3), (23, .aload_n 0, 1), (24, .lconst 1, 1), (25, .aload_n 0, 1), (26, .getfield 44, 3), (29, .lshl, 1), (30, .putfield 56, 3), (33, .aload_n 0, 1), (34, .aload_n 0, 1), (35, .getfield 44, 3), (38, .aload_n 0, 1), (39, .getfield 47, 3), (42, .iconst (-1), 1), (43, .invokevirtual 91, 3), (46, .return_, 1)]
set_option maxRecDepth 100000 in
theorem sa_kv55 : ∀ q ∈ sa_k55, decode cX5_begin q.1 = .ok q.2 ∧ sa_ln q.2.1 q.2.2 = true := by decide +kernel
set_option maxRecDepth 100000 in
def sa_k56 : List (Nat × Instr × Nat) := [(0, .aload_n 0, 1), (1, .getfield 21, 3), (4, .iload_n 2, 1), (5, .laload, 1), (6, .iload_n 1, 1), (7, .lshr, 1), (8, .lconst 1, 1), (9, .land, 1), (10, .lconst 0, 1), (11, .lcmp, 1), (12, .ifCond .ne 60, 3), (15, .aload_n 0, 1), (16, .getfield 50, 3), (19, .sipush 3904, 3), (22, .if_icmp .ge 50, 3), (25, .aload_n 0, 1), (26, .getfield 21, 3), (29, .iload_n 2, 1), (30, .dup2, 1), (31, .laload, 1), (32, .lconst 1, 1), (33, .iload_n 1, 1), (34, .lshl, 1), (35, .lor, 1), (36, .lastore, 1), (37, .aload_n 0, 1), (38, .getfield 11, 3), (41, .aload_n 0, 1), (42, .getfield 50, 3), (45, .iload_n 2, 1), (46, .bipush 64, 2), (48, .imul, 1), (49, .iload_n 1, 1), (50, .iadd, 1), (51, .iastore, 1), (52, .aload_n 0, 1), (53, .getfield 15, 3), (56, .aload_n 0, 1), (57, .getfield 50, 3), (60, .iload_n 3, 1), (61, .iastore, 1), (62, .aload_n 0, 1), (63, .dup, 1), (64, .getfield 50, 3), (67, .iconst 1, 1), (68, .iadd, 1), (69, .putfield 50, 3), (72, .return_, 1)]
set_option maxRecDepth 100000 in
theorem sa_kv56 : ∀ q ∈ sa_k56, decode cX5_visit q.1 = .ok q.2 ∧ sa_ln q.2.1 q.2.2 = true := by decide +kernel
set_option maxRecDepth 100000 in
def sa_k57 : List (Nat × Instr × Nat) := [(0, .aload_n 0, 1), (1, .getfield 11, 3), (4, .iload_n 1, 1), (5, .iaload, 1), (6, .bipush 64, 2), (8, .irem, 1), (9, .istore_n 2, 1), (10, .aload_n 0, 1), (11, .getfield 11, 3), (14, .iload_n 1, 1), (15, .iaload, 1), (16, .bipush 64, 2), (18, .idiv, 1), (19, .istore_n 3, 1), (20, .iconst 0, 1), (21, .istore 4, 2), (23, .iload 4, 2), (25, .aload_n 0, 1), (26, .getfield 63, 3), (29, .getfield 95, 3), (32, .invokevirtual 101, 3), (35, .if_icmp .ge 127, 3), (38, .aload_n 0, 1), (39, .getfield 63, 3), (42, .iload 4, 2), (44, .iload_n 2, 1), (45, .invokevirtual 107, 3), (48, .ifCond .ne 6, 3), (51, .goto 105, 3), (54, .aload_n 0, 1), (55, .dup, 1), (56, .getfield 60, 3), (59, .iconst 1, 1), (60, .iload 4, 2), (62, .ishl, 1), (63, .ior, 1), (64, .putfield 60, 3), (67, .aload_n 0, 1), (68, .getfield 63, 3), (71, .iload 4, 2), (73, .iload_n 2, 1), (74, .invokevirtual 111, 3), (77, .istore 5, 2), (79, .aload_n 0, 1), (80, .getfield 63, 3), (83, .iload 4, 2), (85, .iload_n 3, 1), (86, .aload_n 0, 1), (87, .getfield 38, 3), (90, .invokevirtual 115, 3), (93, .istore 6, 2), (95, .aload_n 0, 1), (96, .dup, 1), (97, .getfield 56, 3), (100, .lconst 1, 1), (101, .iload 5, 2), (103, .lshl, 1), (104, .lor, 1), (105, .putfield 56, 3), (108, .aload_n 0, 1), (109, .iload 5, 2), (111, .iload 6, 2), (113, .invokevirtual 119, 3), (116, .ifCond .ne 21, 3), (119, .aload_n 0, 1), (120, .iload 5, 2), (122, .iload 6, 2), (124, .iload_n 1, 1), (125, .bipush 8, 2), (127, .imul, 1), (128, .iload 4, 2), (130, .iadd, 1), (131, .invokevirtual 91, 3), (134, .goto 22, 3), (137, .aload_n 0, 1), (138, .getfield 53, 3), (141, .iconst (-1), 1), (142, .if_icmp .ne 14, 3), (145, .aload_n 0, 1), (146, .iload_n 1, 1), (147, .bipush 8, 2), (149, .imul, 1), (150, .iload 4, 2), (152, .iadd, 1), (153, .putfield 53, 3), (156, .iinc 4 1, 3), (159, .goto (-136), 3), (162, .return_, 1)]
set_option maxRecDepth 100000 in
theorem sa_kv57 : ∀ q ∈ sa_k57, decode cX5_goOnFrom q.1 = .ok q.2 ∧ sa_ln q.2.1 q.2.2 = true := by decide +kernel
set_option maxRecDepth 100000 in
def sa_k58 : List (Nat × Instr × Nat) := [(0, .iload_n 1, 1), (1, .invokestatic 122, 3), (4, .istore_n 3, 1), (5, .lconst 1, 1), (6, .iload_n 2, 1), (7, .lshl, 1), (8, .lstore 4, 2), (10, .aload_n 0, 1), (11, .getfield 28, 3), (14, .iload_n 3, 1), (15, .laload, 1), (16, .lload 4, 2), (18, .land, 1), (19, .lconst 0, 1), (20, .lcmp, 1), (21, .ifCond .ne 49, 3), (24, .aload_n 0, 1), (25, .getfield 28, 3), (28, .iload_n 3, 1), (29, .dup2, 1), (30, .laload, 1), (31, .lload 4, 2), (33, .lor, 1), (34, .lastore, 1), (35, .aload_n 0, 1), (36, .getfield 63, 3), (39, .aload_n 0, 1), (40, .getfield 34, 3), (43, .iload_n 2, 1), (44, .aload_n 0, 1), (45, .getfield 41, 3), (48, .iload_n 1, 1), (49, .aload_n 0, 1), (50, .getfield 38, 3), (53, .invokevirtual 127, 3), (56, .ifCond .eq 14, 3), (59, .aload_n 0, 1), (60, .getfield 31, 3), (63, .iload_n 3, 1), (64, .dup2, 1), (65, .laload, 1), (66, .lload 4, 2), (68, .lor, 1), (69, .lastore, 1), (70, .aload_n 0, 1), (71, .getfield 31, 3), (74, .iload_n 3, 1), (75, .laload, 1), (76, .lload 4, 2), (78, .land, 1), (79, .lconst 0, 1), (80, .lcmp, 1), (81, .ifCond .eq 7, 3), (84, .iconst 1, 1), (85, .goto 4, 3), (88, .iconst 0, 1), (89, .ireturn, 1)]
set_option maxRecDepth 100000 in
theorem sa_kv58 : ∀ q ∈ sa_k58, decode cX5_isBound q.1 = .ok q.2 ∧ sa_ln q.2.1 q.2.2 = true := by decide +kernel
set_option maxRecDepth 100000 in
def sa_k59 : List (Nat × Instr × Nat) := [(0, .aload_n 0, 1), (1, .getfield 21, 3), (4, .lconst 0, 1), (5, .invokestatic 78, 3), (8, .aload_n 0, 1), (9, .getfield 25, 3), (12, .lconst 0, 1), (13, .invokestatic 78, 3), (16, .iconst (-1), 1), (17, .istore_n 1, 1), (18, .aload_n 0, 1), (19, .aload_n 0, 1), (20, .getfield 44, 3), (23, .aload_n 0, 1), (24, .getfield 47, 3), (27, .iconst 0, 1), (28, .invokevirtual 131, 3), (31, .aload_n 0, 1), (32, .getfield 47, 3), (35, .istore_n 2, 1), (36, .iload_n 2, 1), (37, .bipush 61, 2), (39, .if_icmp .ge 67, 3), (42, .iconst 0, 1), (43, .istore_n 3, 1), (44, .iload_n 3, 1), (45, .bipush 64, 2), (47, .if_icmp .ge 53, 3), (50, .aload_n 0, 1), (51, .getfield 25, 3), (54, .iload_n 2, 1), (55, .laload, 1), (56, .lconst 0, 1), (57, .lcmp, 1), (58, .ifCond .eq 42, 3), (61, .aload_n 0, 1), (62, .iload_n 2, 1), (63, .invokevirtual 134, 3), (66, .istore 4, 2), (68, .aload_n 0, 1), (69, .getfield 25, 3), (72, .iload_n 2, 1), (73, .dup2, 1), (74, .laload, 1), (75, .lconst 1, 1), (76, .iload 4, 2), (78, .lshl, 1), (79, .ldc2_w 137, 3), (82, .lxor, 1), (83, .land, 1), (84, .lastore, 1), (85, .aload_n 0, 1), (86, .iload 4, 2), (88, .iload_n 2, 1), (89, .iload_n 1, 1), (90, .invokevirtual 139, 3), (93, .istore_n 1, 1), (94, .iinc 3 1, 3), (97, .goto (-53), 3), (100, .iinc 2 1, 3), (103, .goto (-67), 3), (106, .iload_n 1, 1), (107, .ireturn, 1)]
set_option maxRecDepth 100000 in
theorem sa_kv59 : ∀ q ∈ sa_k59, decode cX5_leastCost q.1 = .ok q.2 ∧ sa_ln q.2.1 q.2.2 = true := by decide +kernel
set_option maxRecDepth 100000 in
def sa_k60 : List (Nat × Instr × Nat) := [(0, .iconst 0, 1), (1, .istore_n 2, 1), (2, .ldc 142, 2), (4, .istore_n 3, 1), (5, .iconst 0, 1), (6, .istore 4, 2), (8, .iload 4, 2), (10, .bipush 64, 2), (12, .if_icmp .ge 57, 3), (15, .aload_n 0, 1), (16, .getfield 25, 3), (19, .iload_n 1, 1), (20, .laload, 1), (21, .iload 4, 2), (23, .lshr, 1), (24, .lconst 1, 1), (25, .land, 1), (26, .lconst 0, 1), (27, .lcmp, 1), (28, .ifCond .eq 35, 3), (31, .aload_n 0, 1), (32, .getfield 18, 3), (35, .iload_n 1, 1), (36, .bipush 64, 2), (38, .imul, 1), (39, .iload 4, 2), (41, .iadd, 1), (42, .iaload, 1), (43, .iload_n 3, 1), (44, .if_icmp .ge 19, 3), (47, .iload 4, 2), (49, .istore_n 2, 1), (50, .aload_n 0, 1), (51, .getfield 18, 3), (54, .iload_n 1, 1), (55, .bipush 64, 2), (57, .imul, 1), (58, .iload 4, 2), (60, .iadd, 1), (61, .iaload, 1), (62, .istore_n 3, 1), (63, .iinc 4 1, 3), (66, .goto (-58), 3), (69, .iload_n 2, 1), (70, .ireturn, 1)]
set_option maxRecDepth 100000 in
theorem sa_kv60 : ∀ q ∈ sa_k60, decode cX5_cheapestOpen q.1 = .ok q.2 ∧ sa_ln q.2.1 q.2.2 = true := by decide +kernel
set_option maxRecDepth 100000 in
def sa_k61 : List (Nat × Instr × Nat) := [(0, .iload_n 3, 1), (1, .istore 4, 2), (3, .aload_n 0, 1), (4, .getfield 18, 3), (7, .iload_n 2, 1), (8, .bipush 64, 2), (10, .imul, 1), (11, .iload_n 1, 1), (12, .iadd, 1), (13, .iaload, 1), (14, .istore 5, 2), (16, .iconst 0, 1), (17, .istore 6, 2), (19, .iload 6, 2), (21, .aload_n 0, 1), (22, .getfield 63, 3), (25, .getfield 95, 3), (28, .invokevirtual 101, 3), (31, .if_icmp .ge 112, 3), (34, .aload_n 0, 1), (35, .getfield 63, 3), (38, .iload 6, 2), (40, .iload_n 1, 1), (41, .invokevirtual 107, 3), (44, .ifCond .ne 6, 3), (47, .goto 90, 3), (50, .iload 5, 2), (52, .aload_n 0, 1), (53, .getfield 63, 3), (56, .getfield 95, 3), (59, .iload 6, 2), (61, .iconst 5, 1), (62, .invokevirtual 143, 3), (65, .iadd, 1), (66, .istore 7, 2), (68, .aload_n 0, 1), (69, .getfield 63, 3), (72, .iload 6, 2), (74, .iload_n 1, 1), (75, .invokevirtual 111, 3), (78, .istore 8, 2), (80, .aload_n 0, 1), (81, .getfield 63, 3), (84, .iload 6, 2), (86, .iload_n 2, 1), (87, .aload_n 0, 1), (88, .getfield 38, 3), (91, .invokevirtual 115, 3), (94, .istore 9, 2), (96, .aload_n 0, 1), (97, .iload 8, 2), (99, .iload 9, 2), (101, .invokevirtual 119, 3), (104, .ifCond .ne 16, 3), (107, .aload_n 0, 1), (108, .iload 8, 2), (110, .iload 9, 2), (112, .iload 7, 2), (114, .invokevirtual 131, 3), (117, .goto 20, 3), (120, .iload 4, 2), (122, .iconst (-1), 1), (123, .if_icmp .eq 10, 3), (126, .iload 7, 2), (128, .iload 4, 2), (130, .if_icmp .ge 7, 3), (133, .iload 7, 2), (135, .istore 4, 2), (137, .iinc 6 1, 3), (140, .goto (-121), 3), (143, .iload 4, 2), (145, .ireturn, 1)]
set_option maxRecDepth 100000 in
theorem sa_kv61 : ∀ q ∈ sa_k61, decode cX5_payFrom q.1 = .ok q.2 ∧ sa_ln q.2.1 q.2.2 = true := by decide +kernel
set_option maxRecDepth 100000 in
def sa_k62 : List (Nat × Instr × Nat) := [(0, .iload_n 2, 1), (1, .bipush 64, 2), (3, .imul, 1), (4, .iload_n 1, 1), (5, .iadd, 1), (6, .istore 4, 2), (8, .lconst 1, 1), (9, .iload_n 1, 1), (10, .lshl, 1), (11, .lstore 5, 2), (13, .aload_n 0, 1), (14, .getfield 21, 3), (17, .iload_n 2, 1), (18, .laload, 1), (19, .lload 5, 2), (21, .land, 1), (22, .lconst 0, 1), (23, .lcmp, 1), (24, .ifCond .eq 14, 3), (27, .iload_n 3, 1), (28, .aload_n 0, 1), (29, .getfield 18, 3), (32, .iload 4, 2), (34, .iaload, 1), (35, .if_icmp .ge 33, 3), (38, .aload_n 0, 1), (39, .getfield 21, 3), (42, .iload_n 2, 1), (43, .dup2, 1), (44, .laload, 1), (45, .lload 5, 2), (47, .lor, 1), (48, .lastore, 1), (49, .aload_n 0, 1), (50, .getfield 25, 3), (53, .iload_n 2, 1), (54, .dup2, 1), (55, .laload, 1), (56, .lload 5, 2), (58, .lor, 1), (59, .lastore, 1), (60, .aload_n 0, 1), (61, .getfield 18, 3), (64, .iload 4, 2), (66, .iload_n 3, 1), (67, .iastore, 1), (68, .return_, 1)]
set_option maxRecDepth 100000 in
theorem sa_kv62 : ∀ q ∈ sa_k62, decode cX5_improve q.1 = .ok q.2 ∧ sa_ln q.2.1 q.2.2 = true := by decide +kernel
set_option maxRecDepth 100000 in
def sa_k63 : List (Nat × Instr × Nat) := [(0, .aload_n 0, 1), (1, .invokespecial 3, 3), (4, .aload_n 0, 1), (5, .new 9, 3), (8, .dup, 1), (9, .bipush 6, 2), (11, .getstatic 11, 3), (14, .invokespecial 15, 3), (17, .putfield 18, 3), (20, .aload_n 0, 1), (21, .new 9, 3), (24, .dup, 1), (25, .bipush 8, 2), (27, .getstatic 24, 3), (30, .invokespecial 15, 3), (33, .putfield 27, 3), (36, .aload_n 0, 1), (37, .new 9, 3), (40, .dup, 1), (41, .bipush 6, 2), (43, .getstatic 30, 3), (46, .invokespecial 15, 3), (49, .putfield 33, 3), (52, .aload_n 0, 1), (53, .new 9, 3), (56, .dup, 1), (57, .bipush 8, 2), (59, .getstatic 36, 3), (62, .invokespecial 15, 3), (65, .putfield 39, 3), (68, .aload_n 0, 1), (69, .new 42, 3), (72, .dup, 1), (73, .invokespecial 44, 3), (76, .putfield 45, 3), (79, .aload_n 0, 1), (80, .bipush 50, 2), (82, .putfield 49, 3), (85, .aload_n 0, 1), (86, .iconst 0, 1), (87, .putfield 53, 3), (90, .return_, 1)]
set_option maxRecDepth 100000 in
theorem sa_kv63 : ∀ q ∈ sa_k63, decode cX6_init q.1 = .ok q.2 ∧ sa_ln q.2.1 q.2.2 = true := by decide +kernel
set_option maxRecDepth 100000 in
def sa_k64 : List (Nat × Instr × Nat) := [(0, .aload_n 0, 1), (1, .getfield 18, 3), (4, .invokevirtual 56, 3), (7, .aload_n 0, 1), (8, .getfield 27, 3), (11, .invokevirtual 56, 3), (14, .aload_n 0, 1), (15, .getfield 33, 3), (18, .invokevirtual 56, 3), (21, .aload_n 0, 1), (22, .getfield 39, 3), (25, .invokevirtual 56, 3), (28, .aload_n 0, 1), (29, .getfield 45, 3), (32, .invokevirtual 59, 3), (35, .aload_n 0, 1), (36, .bipush 50, 2), (38, .putfield 49, 3), (41, .aload_n 0, 1), (42, .iconst 0, 1), (43, .putfield 53, 3), (46, .return_, 1)]
set_option maxRecDepth 100000 in
theorem sa_kv64 : ∀ q ∈ sa_k64, decode cX6_clear q.1 = .ok q.2 ∧ sa_ln q.2.1 q.2.2 = true := by decide +kernel
set_option maxRecDepth 100000 in
def sa_k65 : List (Nat × Instr × Nat) := [(0, .aload_n 0, 1), (1, .getfield 18, 3), (4, .aload_n 1, 1), (5, .getfield 18, 3), (8, .invokevirtual 60, 3), (11, .aload_n 0, 1), (12, .getfield 27, 3), (15, .aload_n 1, 1), (16, .getfield 27, 3), (19, .invokevirtual 60, 3), (22, .aload_n 0, 1), (23, .getfield 33, 3), (26, .aload_n 1, 1), (27, .getfield 33, 3), (30, .invokevirtual 60, 3), (33, .aload_n 0, 1), (34, .getfield 39, 3), (37, .aload_n 1, 1), (38, .getfield 39, 3), (41, .invokevirtual 60, 3), (44, .aload_n 0, 1), (45, .getfield 45, 3), (48, .aload_n 1, 1), (49, .getfield 45, 3), (52, .invokevirtual 64, 3), (55, .aload_n 0, 1), (56, .aload_n 1, 1), (57, .getfield 49, 3), (60, .putfield 49, 3), (63, .aload_n 0, 1), (64, .aload_n 1, 1), (65, .getfield 53, 3), (68, .putfield 53, 3), (71, .return_, 1)]
set_option maxRecDepth 100000 in
theorem sa_kv65 : ∀ q ∈ sa_k65, decode cX6_copyFrom q.1 = .ok q.2 ∧ sa_ln q.2.1 q.2.2 = true := by decide +kernel
set_option maxRecDepth 100000 in
def sa_k66 : List (Nat × Instr × Nat) := [(0, .aload_n 0, 1), (1, .getfield 49, 3), (4, .ireturn, 1)]
set_option maxRecDepth 100000 in
theorem sa_kv66 : ∀ q ∈ sa_k66, decode cX6_startCoins q.1 = .ok q.2 ∧ sa_ln q.2.1 q.2.2 = true := by decide +kernel
set_option maxRecDepth 100000 in
def sa_k67 : List (Nat × Instr × Nat) := [(0, .aload_n 0, 1), (1, .iload_n 1, 1), (2, .putfield 49, 3), (5, .return_, 1)]
set_option maxRecDepth 100000 in
theorem sa_kv67 : ∀ q ∈ sa_k67, decode cX6_setCoins q.1 = .ok q.2 ∧ sa_ln q.2.1 q.2.2 = true := by decide +kernel
set_option maxRecDepth 100000 in
def sa_k68 : List (Nat × Instr × Nat) := [(0, .aload_n 0, 1), (1, .iload_n 1, 1), (2, .putfield 53, 3), (5, .return_, 1)]
set_option maxRecDepth 100000 in
theorem sa_kv68 : ∀ q ∈ sa_k68, decode cX6_setRival q.1 = .ok q.2 ∧ sa_ln q.2.1 q.2.2 = true := by decide +kernel
set_option maxRecDepth 100000 in
def sa_k69 : List (Nat × Instr × Nat) := [(0, .aload_n 0, 1), (1, .getfield 53, 3), (4, .ifCond .le 16, 3), (7, .iload_n 1, 1), (8, .aload_n 0, 1), (9, .getfield 53, 3), (12, .irem, 1), (13, .ifCond .ne 7, 3), (16, .iconst 1, 1), (17, .goto 4, 3), (20, .iconst 0, 1), (21, .ireturn, 1)]
set_option maxRecDepth 100000 in
theorem sa_kv69 : ∀ q ∈ sa_k69, decode cX6_rivalComes q.1 = .ok q.2 ∧ sa_ln q.2.1 q.2.2 = true := by decide +kernel
set_option maxRecDepth 100000 in
def sa_k70 : List (Nat × Instr × Nat) := [(0, .aload_n 0, 1), (1, .getfield 27, 3), (4, .iload_n 1, 1), (5, .iconst 0, 1), (6, .invokevirtual 67, 3), (9, .iload_n 2, 1), (10, .iconst (-1), 1), (11, .ixor, 1), (12, .iand, 1), (13, .ifCond .ne 21, 3), (16, .aload_n 0, 1), (17, .getfield 27, 3), (20, .iload_n 1, 1), (21, .iconst 1, 1), (22, .invokevirtual 67, 3), (25, .iload_n 2, 1), (26, .iand, 1), (27, .ifCond .ne 7, 3), (30, .iconst 1, 1), (31, .goto 4, 3), (34, .iconst 0, 1), (35, .ireturn, 1)]
set_option maxRecDepth 100000 in
theorem sa_kv70 : ∀ q ∈ sa_k70, decode cX6_works q.1 = .ok q.2 ∧ sa_ln q.2.1 q.2.2 = true := by decide +kernel
set_option maxRecDepth 100000 in
def sa_k71 : List (Nat × Instr × Nat) := [(0, .iconst 0, 1), (1, .istore_n 2, 1), (2, .iconst 0, 1), (3, .istore_n 3, 1), (4, .iload_n 3, 1), (5, .aload_n 0, 1), (6, .getfield 27, 3), (9, .invokevirtual 71, 3), (12, .if_icmp .ge 24, 3), (15, .aload_n 0, 1), (16, .iload_n 3, 1), (17, .iload_n 1, 1), (18, .invokevirtual 75, 3), (21, .ifCond .eq 9, 3), (24, .iload_n 2, 1), (25, .iconst 1, 1), (26, .iload_n 3, 1), (27, .ishl, 1), (28, .ior, 1), (29, .istore_n 2, 1), (30, .iinc 3 1, 3), (33, .goto (-29), 3), (36, .iload_n 2, 1), (37, .ireturn, 1)]
set_option maxRecDepth 100000 in
theorem sa_kv71 : ∀ q ∈ sa_k71, decode cX6_keys q.1 = .ok q.2 ∧ sa_ln q.2.1 q.2.2 = true := by decide +kernel
set_option maxRecDepth 100000 in
def sa_k72 : List (Nat × Instr × Nat) := [(0, .iload_n 2, 1), (1, .aload_n 0, 1), (2, .getfield 27, 3), (5, .iload_n 1, 1), (6, .iconst 2, 1), (7, .invokevirtual 67, 3), (10, .ior, 1), (11, .aload_n 0, 1), (12, .getfield 27, 3), (15, .iload_n 1, 1), (16, .iconst 3, 1), (17, .invokevirtual 67, 3), (20, .iconst (-1), 1), (21, .ixor, 1), (22, .iand, 1), (23, .ireturn, 1)]
set_option maxRecDepth 100000 in
theorem sa_kv72 : ∀ q ∈ sa_k72, decode cX6_beliefsBehind q.1 = .ok q.2 ∧ sa_ln q.2.1 q.2.2 = true := by decide +kernel
set_option maxRecDepth 100000 in
def sa_k73 : List (Nat × Instr × Nat) := [(0, .aload_n 0, 1), (1, .getfield 27, 3), (4, .iload_n 1, 1), (5, .iconst 4, 1), (6, .invokevirtual 67, 3), (9, .istore 4, 2), (11, .iload 4, 2), (13, .ifCond .ne 7, 3), (16, .iload_n 2, 1), (17, .goto 14, 3), (20, .bipush 60, 2), (22, .iload_n 2, 1), (23, .iload 4, 2), (25, .iadd, 1), (26, .iload_n 3, 1), (27, .iadd, 1), (28, .invokestatic 79, 3), (31, .ireturn, 1)]
set_option maxRecDepth 100000 in
theorem sa_kv73 : ∀ q ∈ sa_k73, decode cX6_cordBehind q.1 = .ok q.2 ∧ sa_ln q.2.1 q.2.2 = true := by decide +kernel
set_option maxRecDepth 100000 in
def sa_k74 : List (Nat × Instr × Nat) := [(0, .aload_n 0, 1), (1, .getfield 18, 3), (4, .iload_n 1, 1), (5, .iconst 0, 1), (6, .invokevirtual 67, 3), (9, .istore 6, 2), (11, .aload_n 0, 1), (12, .getfield 45, 3), (15, .invokevirtual 84, 3), (18, .ifCond .eq 19, 3), (21, .iload_n 2, 1), (22, .ifCond .eq 13, 3), (25, .iload_n 2, 1), (26, .iload 6, 2), (28, .if_icmp .lt 7, 3), (31, .iconst 1, 1), (32, .goto 4, 3), (35, .iconst 0, 1), (36, .ireturn, 1), (37, .aload_n 0, 1), (38, .getfield 18, 3), (41, .iload_n 1, 1), (42, .iconst 3, 1), (43, .invokevirtual 67, 3), (46, .istore 7, 2), (48, .aload_n 0, 1), (49, .getfield 45, 3), (52, .iload_n 2, 1), (53, .iload 6, 2), (55, .iload_n 3, 1), (56, .iload 4, 2), (58, .invokestatic 88, 3), (61, .iload 7, 2), (63, .iload 5, 2), (65, .invokevirtual 94, 3), (68, .ifCond .le 7, 3), (71, .iconst 1, 1), (72, .goto 4, 3), (75, .iconst 0, 1), (76, .ireturn, 1)]
set_option maxRecDepth 100000 in
theorem sa_kv74 : ∀ q ∈ sa_k74, decode cX6_binds q.1 = .ok q.2 ∧ sa_ln q.2.1 q.2.2 = true := by decide +kernel
set_option maxRecDepth 100000 in
def sa_k75 : List (Nat × Instr × Nat) := [(0, .iconst 0, 1), (1, .istore_n 2, 1), (2, .iconst 0, 1), (3, .istore_n 3, 1), (4, .iload_n 3, 1), (5, .aload_n 0, 1), (6, .getfield 18, 3), (9, .invokevirtual 71, 3), (12, .if_icmp .ge 29, 3), (15, .iload_n 1, 1), (16, .iload_n 3, 1), (17, .ishr, 1), (18, .iconst 1, 1), (19, .iand, 1), (20, .ifCond .eq 15, 3), (23, .iload_n 2, 1), (24, .aload_n 0, 1), (25, .getfield 18, 3), (28, .iload_n 3, 1), (29, .iconst 3, 1), (30, .invokevirtual 67, 3), (33, .iadd, 1), (34, .istore_n 2, 1), (35, .iinc 3 1, 3), (38, .goto (-34), 3), (41, .iload_n 2, 1), (42, .ireturn, 1)]
set_option maxRecDepth 100000 in
theorem sa_kv75 : ∀ q ∈ sa_k75, decode cX6_priceOf q.1 = .ok q.2 ∧ sa_ln q.2.1 q.2.2 = true := by decide +kernel
set_option maxRecDepth 100000 in
def sa_k76 : List (Nat × Instr × Nat) := [(0, .iconst 0, 1), (1, .istore_n 2, 1), (2, .iconst 0, 1), (3, .istore_n 3, 1), (4, .iload_n 3, 1), (5, .aload_n 0, 1), (6, .getfield 18, 3), (9, .invokevirtual 71, 3), (12, .if_icmp .ge 31, 3), (15, .iload_n 1, 1), (16, .iload_n 3, 1), (17, .ishr, 1), (18, .iconst 1, 1), (19, .iand, 1), (20, .ifCond .eq 17, 3), (23, .iload_n 2, 1), (24, .aload_n 0, 1), (25, .getfield 18, 3), (28, .iload_n 3, 1), (29, .iconst 0, 1), (30, .invokevirtual 67, 3), (33, .invokestatic 98, 3), (36, .istore_n 2, 1), (37, .iinc 3 1, 3), (40, .goto (-36), 3), (43, .iload_n 2, 1), (44, .ireturn, 1)]
set_option maxRecDepth 100000 in
theorem sa_kv76 : ∀ q ∈ sa_k76, decode cX6_greatestStrength q.1 = .ok q.2 ∧ sa_ln q.2.1 q.2.2 = true := by decide +kernel
set_option maxRecDepth 100000 in
def sa_k77 : List (Nat × Instr × Nat) := [(0, .aload_n 0, 1), (1, .iload_n 1, 1), (2, .invokevirtual 101, 3), (5, .istore_n 3, 1), (6, .iconst 0, 1), (7, .istore 4, 2), (9, .iconst 0, 1), (10, .istore 5, 2), (12, .iload 5, 2), (14, .aload_n 0, 1), (15, .getfield 33, 3), (18, .invokevirtual 71, 3), (21, .if_icmp .ge 46, 3), (24, .aload_n 0, 1), (25, .getfield 33, 3), (28, .iload 5, 2), (30, .iconst 0, 1), (31, .invokevirtual 67, 3), (34, .iload_n 3, 1), (35, .if_icmp .lt 26, 3), (38, .aload_n 0, 1), (39, .getfield 33, 3), (42, .iload 5, 2), (44, .iconst 1, 1), (45, .invokevirtual 67, 3), (48, .iload_n 2, 1), (49, .if_icmp .lt 12, 3), (52, .iload 4, 2), (54, .iconst 1, 1), (55, .iload 5, 2), (57, .ishl, 1), (58, .ior, 1), (59, .istore 4, 2), (61, .iinc 5 1, 3), (64, .goto (-52), 3), (67, .iload 4, 2), (69, .ireturn, 1)]
set_option maxRecDepth 100000 in
theorem sa_kv77 : ∀ q ∈ sa_k77, decode cX6_payersOf q.1 = .ok q.2 ∧ sa_ln q.2.1 q.2.2 = true := by decide +kernel
set_option maxRecDepth 100000 in
def sa_k78 : List (Nat × Instr × Nat) := [(0, .aload_n 0, 1), (1, .iload_n 1, 1), (2, .iconst 0, 1), (3, .invokevirtual 104, 3), (6, .invokestatic 88, 3), (9, .iload_n 2, 1), (10, .if_icmp .gt 5, 3), (13, .iconst 0, 1), (14, .ireturn, 1), (15, .iconst (-1), 1), (16, .istore_n 3, 1), (17, .iconst 0, 1), (18, .istore 4, 2), (20, .iload 4, 2), (22, .aload_n 0, 1), (23, .getfield 33, 3), (26, .invokevirtual 71, 3), (29, .if_icmp .ge 59, 3), (32, .aload_n 0, 1), (33, .getfield 33, 3), (36, .iload 4, 2), (38, .iconst 1, 1), (39, .invokevirtual 67, 3), (42, .iconst 1, 1), (43, .iadd, 1), (44, .istore 5, 2), (46, .iload 5, 2), (48, .sipush 999, 3), (51, .if_icmp .gt 31, 3), (54, .iload_n 3, 1), (55, .iconst (-1), 1), (56, .if_icmp .eq 9, 3), (59, .iload 5, 2), (61, .iload_n 3, 1), (62, .if_icmp .ge 20, 3), (65, .aload_n 0, 1), (66, .iload_n 1, 1), (67, .iload 5, 2), (69, .invokevirtual 104, 3), (72, .invokestatic 88, 3), (75, .iload_n 2, 1), (76, .if_icmp .gt 6, 3), (79, .iload 5, 2), (81, .istore_n 3, 1), (82, .iinc 4 1, 3), (85, .goto (-65), 3), (88, .iload_n 3, 1), (89, .ireturn, 1)]
set_option maxRecDepth 100000 in
theorem sa_kv78 : ∀ q ∈ sa_k78, decode cX6_priceForFew q.1 = .ok q.2 ∧ sa_ln q.2.1 q.2.2 = true := by decide +kernel
set_option maxRecDepth 100000 in
def sa_k79 : List (Nat × Instr × Nat) := [(0, .aload_n 0, 1), (1, .iload_n 1, 1), (2, .iconst 0, 1), (3, .invokevirtual 104, 3), (6, .istore_n 2, 1), (7, .iconst (-1), 1), (8, .istore_n 3, 1), (9, .iconst 0, 1), (10, .istore 4, 2), (12, .iload 4, 2), (14, .aload_n 0, 1), (15, .getfield 33, 3), (18, .invokevirtual 71, 3), (21, .if_icmp .ge 48, 3), (24, .iload_n 2, 1), (25, .iload 4, 2), (27, .ishr, 1), (28, .iconst 1, 1), (29, .iand, 1), (30, .ifCond .eq 33, 3), (33, .iload_n 3, 1), (34, .iconst (-1), 1), (35, .if_icmp .eq 25, 3), (38, .aload_n 0, 1), (39, .getfield 33, 3), (42, .iload 4, 2), (44, .iconst 1, 1), (45, .invokevirtual 67, 3), (48, .aload_n 0, 1), (49, .getfield 33, 3), (52, .iload_n 3, 1), (53, .iconst 1, 1), (54, .invokevirtual 67, 3), (57, .if_icmp .le 6, 3), (60, .iload 4, 2), (62, .istore_n 3, 1), (63, .iinc 4 1, 3), (66, .goto (-54), 3), (69, .iload_n 3, 1), (70, .ireturn, 1)]
set_option maxRecDepth 100000 in
theorem sa_kv79 : ∀ q ∈ sa_k79, decode cX6_richest q.1 = .ok q.2 ∧ sa_ln q.2.1 q.2.2 = true := by decide +kernel
set_option maxRecDepth 100000 in
def sa_k80 : List (Nat × Instr × Nat) := [(0, .iconst 0, 1), (1, .istore 4, 2), (3, .iconst 0, 1), (4, .istore 5, 2), (6, .iload 5, 2), (8, .iconst 4, 1), (9, .if_icmp .ge 30, 3), (12, .aload_n 0, 1), (13, .iload_n 1, 1), (14, .iload_n 2, 1), (15, .iload_n 3, 1), (16, .iload 5, 2), (18, .iconst 1, 1), (19, .ishr, 1), (20, .iload 5, 2), (22, .iconst 1, 1), (23, .iand, 1), (24, .invokevirtual 107, 3), (27, .ifCond .eq 6, 3), (30, .iinc 4 1, 3), (33, .iinc 5 1, 3), (36, .goto (-30), 3), (39, .iload 4, 2), (41, .ireturn, 1)]
set_option maxRecDepth 100000 in
theorem sa_kv80 : ∀ q ∈ sa_k80, decode cX6_manyResting q.1 = .ok q.2 ∧ sa_ln q.2.1 q.2.2 = true := by decide +kernel
set_option maxRecDepth 100000 in
def sa_k81 : List (Nat × Instr × Nat) := [(0, .iconst 0, 1), (1, .istore 4, 2), (3, .iload 4, 2), (5, .iconst 4, 1), (6, .if_icmp .ge 40, 3), (9, .aload_n 0, 1), (10, .iload_n 1, 1), (11, .iload_n 2, 1), (12, .iload_n 3, 1), (13, .iload 4, 2), (15, .iconst 1, 1), (16, .ishr, 1), (17, .iload 4, 2), (19, .iconst 1, 1), (20, .iand, 1), (21, .invokevirtual 107, 3), (24, .ifCond .eq 16, 3), (27, .bipush 10, 2), (29, .iload 4, 2), (31, .iconst 1, 1), (32, .ishr, 1), (33, .imul, 1), (34, .iload 4, 2), (36, .iconst 1, 1), (37, .iand, 1), (38, .iadd, 1), (39, .ireturn, 1), (40, .iinc 4 1, 3), (43, .goto (-40), 3), (46, .iconst (-1), 1), (47, .ireturn, 1)]
set_option maxRecDepth 100000 in
theorem sa_kv81 : ∀ q ∈ sa_k81, decode cX6_firstResting q.1 = .ok q.2 ∧ sa_ln q.2.1 q.2.2 = true := by decide +kernel
set_option maxRecDepth 100000 in
def sa_k82 : List (Nat × Instr × Nat) := [(0, .aload_n 0, 1), (1, .iload_n 1, 1), (2, .iload_n 2, 1), (3, .iload_n 3, 1), (4, .iload 4, 2), (6, .iload 5, 2), (8, .invokevirtual 111, 3), (11, .aload_n 0, 1), (12, .iload_n 1, 1), (13, .iload_n 2, 1), (14, .iload_n 3, 1), (15, .iconst 1, 1), (16, .iload 4, 2), (18, .isub, 1), (19, .iload 5, 2), (21, .invokevirtual 111, 3), (24, .if_icmp .lt 34, 3), (27, .aload_n 0, 1), (28, .iload_n 2, 1), (29, .iload_n 1, 1), (30, .iload_n 3, 1), (31, .iload 5, 2), (33, .iload 4, 2), (35, .invokevirtual 111, 3), (38, .aload_n 0, 1), (39, .iload_n 2, 1), (40, .iload_n 1, 1), (41, .iload_n 3, 1), (42, .iconst 1, 1), (43, .iload 5, 2), (45, .isub, 1), (46, .iload 4, 2), (48, .invokevirtual 111, 3), (51, .if_icmp .lt 7, 3), (54, .iconst 1, 1), (55, .goto 4, 3), (58, .iconst 0, 1), (59, .ireturn, 1)]
set_option maxRecDepth 100000 in
theorem sa_kv82 : ∀ q ∈ sa_k82, decode cX6_rests q.1 = .ok q.2 ∧ sa_ln q.2.1 q.2.2 = true := by decide +kernel
set_option maxRecDepth 100000 in
def sa_k83 : List (Nat × Instr × Nat) := [(0, .iload 4, 2), (2, .ifCond .ne 5, 3), (5, .iconst 2, 1), (6, .ireturn, 1), (7, .aload_n 0, 1), (8, .getfield 18, 3), (11, .iload_n 3, 1), (12, .iconst 0, 1), (13, .invokevirtual 67, 3), (16, .istore 6, 2), (18, .aload_n 0, 1), (19, .getfield 18, 3), (22, .iload_n 3, 1), (23, .iconst 3, 1), (24, .invokevirtual 67, 3), (27, .istore 7, 2), (29, .aload_n 0, 1), (30, .getfield 33, 3), (33, .iload_n 1, 1), (34, .iconst 0, 1), (35, .invokevirtual 67, 3), (38, .istore 8, 2), (40, .aload_n 0, 1), (41, .getfield 33, 3), (44, .iload_n 2, 1), (45, .iconst 0, 1), (46, .invokevirtual 67, 3), (49, .istore 9, 2), (51, .iload 8, 2), (53, .iload 6, 2), (55, .if_icmp .ge 6, 3), (58, .bipush (-5), 2), (60, .ireturn, 1), (61, .iload 5, 2), (63, .ifCond .eq 10, 3), (66, .iload 9, 2), (68, .iload 6, 2), (70, .if_icmp .ge 6, 3), (73, .iload 7, 2), (75, .ireturn, 1), (76, .iload 8, 2), (78, .iload 9, 2), (80, .if_icmp .ne 7, 3), (83, .iconst 0, 1), (84, .goto 20, 3), (87, .iload 8, 2), (89, .iload 9, 2), (91, .if_icmp .le 11, 3), (94, .iload 7, 2), (96, .bipush 10, 2), (98, .isub, 1), (99, .goto 5, 3), (102, .bipush (-5), 2), (104, .ireturn, 1)]
set_option maxRecDepth 100000 in
theorem sa_kv83 : ∀ q ∈ sa_k83, decode cX6_gain q.1 = .ok q.2 ∧ sa_ln q.2.1 q.2.2 = true := by decide +kernel
set_option maxRecDepth 100000 in
def sa_k84 : List (Nat × Instr × Nat) := [(0, .aload_n 0, 1), (1, .aload_n 0, 1), (2, .getfield 39, 3), (5, .invokevirtual 115, 3), (8, .invokevirtual 118, 3), (11, .istore_n 1, 1), (12, .iconst 0, 1), (13, .istore_n 2, 1), (14, .bipush 9, 2), (16, .istore_n 3, 1), (17, .iconst 0, 1), (18, .istore 4, 2), (20, .iload 4, 2), (22, .aload_n 0, 1), (23, .getfield 39, 3), (26, .invokevirtual 115, 3), (29, .if_icmp .gt 37, 3), (32, .iload 4, 2), (34, .invokestatic 88, 3), (37, .iload_n 3, 1), (38, .if_icmp .ge 22, 3), (41, .aload_n 0, 1), (42, .iload 4, 2), (44, .invokevirtual 118, 3), (47, .iload_n 1, 1), (48, .if_icmp .ne 12, 3), (51, .iload 4, 2), (53, .istore_n 2, 1), (54, .iload 4, 2), (56, .invokestatic 88, 3), (59, .istore_n 3, 1), (60, .iinc 4 1, 3), (63, .goto (-43), 3), (66, .iload_n 2, 1), (67, .ireturn, 1)]
set_option maxRecDepth 100000 in
theorem sa_kv84 : ∀ q ∈ sa_k84, decode cX6_fewestTales q.1 = .ok q.2 ∧ sa_ln q.2.1 q.2.2 = true := by decide +kernel
set_option maxRecDepth 100000 in
def sa_k85 : List (Nat × Instr × Nat) := [(0, .iconst 0, 1), (1, .istore_n 2, 1), (2, .iconst 0, 1), (3, .istore_n 3, 1), (4, .iload_n 3, 1), (5, .aload_n 0, 1), (6, .getfield 39, 3), (9, .invokevirtual 71, 3), (12, .if_icmp .ge 29, 3), (15, .iload_n 1, 1), (16, .iload_n 3, 1), (17, .ishr, 1), (18, .iconst 1, 1), (19, .iand, 1), (20, .ifCond .eq 15, 3), (23, .iload_n 2, 1), (24, .aload_n 0, 1), (25, .getfield 39, 3), (28, .iload_n 3, 1), (29, .iconst 0, 1), (30, .invokevirtual 67, 3), (33, .ior, 1), (34, .istore_n 2, 1), (35, .iinc 3 1, 3), (38, .goto (-34), 3), (41, .iload_n 2, 1), (42, .ireturn, 1)]
set_option maxRecDepth 100000 in
theorem sa_kv85 : ∀ q ∈ sa_k85, decode cX6_partsOf q.1 = .ok q.2 ∧ sa_ln q.2.1 q.2.2 = true := by decide +kernel
set_option maxRecDepth 100000 in
def sa_k86 : List (Nat × Instr × Nat) := [(0, .aload_n 0, 1), (1, .getfield 39, 3), (4, .iload_n 1, 1), (5, .iconst 0, 1), (6, .invokevirtual 67, 3), (9, .aload_n 0, 1), (10, .getfield 39, 3), (13, .iload_n 2, 1), (14, .iconst 0, 1), (15, .invokevirtual 67, 3), (18, .iand, 1), (19, .invokestatic 88, 3), (22, .ireturn, 1)]
set_option maxRecDepth 100000 in
theorem sa_kv86 : ∀ q ∈ sa_k86, decode cX6_sharedParts q.1 = .ok q.2 ∧ sa_ln q.2.1 q.2.2 = true := by decide +kernel
set_option maxRecDepth 100000 in
def sa_k87 : List (Nat × Instr × Nat) := [(0, .iconst (-1), 1), (1, .istore_n 2, 1), (2, .iconst 0, 1), (3, .istore_n 3, 1), (4, .iconst 0, 1), (5, .istore 4, 2), (7, .iload 4, 2), (9, .iload_n 1, 1), (10, .if_icmp .ge 30, 3), (13, .aload_n 0, 1), (14, .iload_n 1, 1), (15, .iload 4, 2), (17, .invokevirtual 121, 3), (20, .istore 5, 2), (22, .iload 5, 2), (24, .iload_n 3, 1), (25, .if_icmp .le 9, 3), (28, .iload 5, 2), (30, .istore_n 3, 1), (31, .iload 4, 2), (33, .istore_n 2, 1), (34, .iinc 4 1, 3), (37, .goto (-30), 3), (40, .iload_n 2, 1), (41, .ireturn, 1)]
set_option maxRecDepth 100000 in
theorem sa_kv87 : ∀ q ∈ sa_k87, decode cX6_lender q.1 = .ok q.2 ∧ sa_ln q.2.1 q.2.2 = true := by decide +kernel
end
section
set_option maxRecDepth 100000 in
def sa_k88 : List (Nat × Instr × Nat) := [(0, .aload_n 0, 1), (1, .getfield 39, 3), (4, .iload_n 1, 1), (5, .iconst 0, 1), (6, .invokevirtual 67, 3), (9, .aload_n 0, 1), (10, .aload_n 0, 1), (11, .getfield 39, 3), (14, .invokevirtual 115, 3), (17, .iconst 1, 1), (18, .iload_n 1, 1), (19, .ishl, 1), (20, .iconst (-1), 1), (21, .ixor, 1), (22, .iand, 1), (23, .invokevirtual 118, 3), (26, .iconst (-1), 1), (27, .ixor, 1), (28, .iand, 1), (29, .ireturn, 1)]
set_option maxRecDepth 100000 in
theorem sa_kv88 : ∀ q ∈ sa_k88, decode cX6_partsAlone q.1 = .ok q.2 ∧ sa_ln q.2.1 q.2.2 = true := by decide +kernel
set_option maxRecDepth 100000 in
def sa_k89 : List (Nat × Instr × Nat) := [(0, .iconst 0, 1), (1, .istore_n 1, 1), (2, .iconst 0, 1), (3, .istore_n 2, 1), (4, .iload_n 2, 1), (5, .aload_n 0, 1), (6, .getfield 39, 3), (9, .invokevirtual 71, 3), (12, .if_icmp .ge 54, 3), (15, .iload_n 2, 1), (16, .iconst 1, 1), (17, .iadd, 1), (18, .istore_n 3, 1), (19, .iload_n 3, 1), (20, .aload_n 0, 1), (21, .getfield 39, 3), (24, .invokevirtual 71, 3), (27, .if_icmp .ge 33, 3), (30, .aload_n 0, 1), (31, .getfield 39, 3), (34, .iload_n 2, 1), (35, .iconst 0, 1), (36, .invokevirtual 67, 3), (39, .aload_n 0, 1), (40, .getfield 39, 3), (43, .iload_n 3, 1), (44, .iconst 0, 1), (45, .invokevirtual 67, 3), (48, .if_icmp .ne 6, 3), (51, .iinc 1 1, 3), (54, .iinc 3 1, 3), (57, .goto (-38), 3), (60, .iinc 2 1, 3), (63, .goto (-59), 3), (66, .iload_n 1, 1), (67, .ireturn, 1)]
set_option maxRecDepth 100000 in
theorem sa_kv89 : ∀ q ∈ sa_k89, decode cX6_likeCouples q.1 = .ok q.2 ∧ sa_ln q.2.1 q.2.2 = true := by decide +kernel
set_option maxRecDepth 100000 in
def sa_k90 : List (Nat × Instr × Nat) := [(0, .aload_n 0, 1), (1, .invokespecial 5, 3), (4, .aload_n 0, 1), (5, .bipush 27, 2), (7, .newarray .int, 2), (9, .putfield 11, 3), (12, .aload_n 0, 1), (13, .aload_n 1, 1), (14, .putfield 15, 3), (17, .aload_n 0, 1), (18, .getfield 11, 3), (21, .iconst 0, 1), (22, .bipush 50, 2), (24, .iastore, 1), (25, .aload_n 0, 1), (26, .getfield 11, 3), (29, .iconst 2, 1), (30, .iconst (-1), 1), (31, .iastore, 1), (32, .return_, 1)]
set_option maxRecDepth 100000 in
theorem sa_kv90 : ∀ q ∈ sa_k90, decode cX7_init q.1 = .ok q.2 ∧ sa_ln q.2.1 q.2.2 = true := by decide +kernel
set_option maxRecDepth 100000 in
def sa_k91 : List (Nat × Instr × Nat) := [(0, .aload_n 0, 1), (1, .getfield 11, 3), (4, .iconst 0, 1), (5, .aload_n 0, 1), (6, .getfield 15, 3), (9, .invokevirtual 19, 3), (12, .iastore, 1), (13, .aload_n 0, 1), (14, .getfield 11, 3), (17, .iconst 1, 1), (18, .iconst 0, 1), (19, .iastore, 1), (20, .aload_n 0, 1), (21, .getfield 11, 3), (24, .iconst 2, 1), (25, .iconst (-1), 1), (26, .iastore, 1), (27, .iconst 0, 1), (28, .istore_n 1, 1), (29, .iload_n 1, 1), (30, .aload_n 0, 1), (31, .getfield 15, 3), (34, .getfield 25, 3), (37, .invokevirtual 29, 3), (40, .if_icmp .ge 76, 3), (43, .aload_n 0, 1), (44, .getfield 11, 3), (47, .iconst 4, 1), (48, .iload_n 1, 1), (49, .imul, 1), (50, .iconst 3, 1), (51, .iadd, 1), (52, .aload_n 0, 1), (53, .getfield 15, 3), (56, .getfield 25, 3), (59, .iload_n 1, 1), (60, .iconst 1, 1), (61, .invokevirtual 34, 3), (64, .iastore, 1), (65, .aload_n 0, 1), (66, .getfield 11, 3), (69, .iconst 4, 1), (70, .iload_n 1, 1), (71, .imul, 1), (72, .iconst 4, 1), (73, .iadd, 1), (74, .aload_n 0, 1), (75, .getfield 15, 3), (78, .getfield 25, 3), (81, .iload_n 1, 1), (82, .iconst 2, 1), (83, .invokevirtual 34, 3), (86, .iastore, 1), (87, .aload_n 0, 1), (88, .getfield 11, 3), (91, .iconst 4, 1), (92, .iload_n 1, 1), (93, .imul, 1), (94, .iconst 5, 1), (95, .iadd, 1), (96, .iconst 0, 1), (97, .iastore, 1), (98, .aload_n 0, 1), (99, .getfield 11, 3), (102, .iconst 4, 1), (103, .iload_n 1, 1), (104, .imul, 1), (105, .bipush 6, 2), (107, .iadd, 1), (108, .iconst 0, 1), (109, .iastore, 1), (110, .iinc 1 1, 3), (113, .goto (-84), 3), (116, .return_, 1)]
set_option maxRecDepth 100000 in
theorem sa_kv91 : ∀ q ∈ sa_k91, decode cX7_begin q.1 = .ok q.2 ∧ sa_ln q.2.1 q.2.2 = true := by decide +kernel
set_option maxRecDepth 100000 in
def sa_k92 : List (Nat × Instr × Nat) := [(0, .aload_n 1, 1), (1, .getfield 11, 3), (4, .iconst 0, 1), (5, .aload_n 0, 1), (6, .getfield 11, 3), (9, .iconst 0, 1), (10, .bipush 27, 2), (12, .invokestatic 38, 3), (15, .return_, 1)]
set_option maxRecDepth 100000 in
theorem sa_kv92 : ∀ q ∈ sa_k92, decode cX7_copyFrom q.1 = .ok q.2 ∧ sa_ln q.2.1 q.2.2 = true := by decide +kernel
set_option maxRecDepth 100000 in
def sa_k93 : List (Nat × Instr × Nat) := [(0, .aload_n 0, 1), (1, .getfield 11, 3), (4, .iconst 0, 1), (5, .iaload, 1), (6, .ireturn, 1)]
set_option maxRecDepth 100000 in
theorem sa_kv93 : ∀ q ∈ sa_k93, decode cX7_coins q.1 = .ok q.2 ∧ sa_ln q.2.1 q.2.2 = true := by decide +kernel
set_option maxRecDepth 100000 in
def sa_k94 : List (Nat × Instr × Nat) := [(0, .aload_n 0, 1), (1, .getfield 11, 3), (4, .iconst 0, 1), (5, .iload_n 1, 1), (6, .iastore, 1), (7, .return_, 1)]
set_option maxRecDepth 100000 in
theorem sa_kv94 : ∀ q ∈ sa_k94, decode cX7_setCoins q.1 = .ok q.2 ∧ sa_ln q.2.1 q.2.2 = true := by decide +kernel
set_option maxRecDepth 100000 in
def sa_k95 : List (Nat × Instr × Nat) := [(0, .aload_n 0, 1), (1, .getfield 11, 3), (4, .iconst 1, 1), (5, .iaload, 1), (6, .ireturn, 1)]
set_option maxRecDepth 100000 in
theorem sa_kv95 : ∀ q ∈ sa_k95, decode cX7_dayNow q.1 = .ok q.2 ∧ sa_ln q.2.1 q.2.2 = true := by decide +kernel
set_option maxRecDepth 100000 in
def sa_k96 : List (Nat × Instr × Nat) := [(0, .aload_n 0, 1), (1, .getfield 11, 3), (4, .iconst 2, 1), (5, .iaload, 1), (6, .ireturn, 1)]
set_option maxRecDepth 100000 in
theorem sa_kv96 : ∀ q ∈ sa_k96, decode cX7_guarded q.1 = .ok q.2 ∧ sa_ln q.2.1 q.2.2 = true := by decide +kernel
set_option maxRecDepth 100000 in
def sa_k97 : List (Nat × Instr × Nat) := [(0, .aload_n 0, 1), (1, .getfield 11, 3), (4, .iconst 2, 1), (5, .iload_n 1, 1), (6, .iastore, 1), (7, .return_, 1)]
set_option maxRecDepth 100000 in
theorem sa_kv97 : ∀ q ∈ sa_k97, decode cX7_setGuarded q.1 = .ok q.2 ∧ sa_ln q.2.1 q.2.2 = true := by decide +kernel
set_option maxRecDepth 100000 in
def sa_k98 : List (Nat × Instr × Nat) := [(0, .aload_n 0, 1), (1, .getfield 11, 3), (4, .iconst 4, 1), (5, .iload_n 1, 1), (6, .imul, 1), (7, .iconst 3, 1), (8, .iadd, 1), (9, .iaload, 1), (10, .ireturn, 1)]
set_option maxRecDepth 100000 in
theorem sa_kv98 : ∀ q ∈ sa_k98, decode cX7_beliefs q.1 = .ok q.2 ∧ sa_ln q.2.1 q.2.2 = true := by decide +kernel
set_option maxRecDepth 100000 in
def sa_k99 : List (Nat × Instr × Nat) := [(0, .aload_n 0, 1), (1, .getfield 11, 3), (4, .iconst 4, 1), (5, .iload_n 1, 1), (6, .imul, 1), (7, .iconst 3, 1), (8, .iadd, 1), (9, .iload_n 2, 1), (10, .iastore, 1), (11, .return_, 1)]
set_option maxRecDepth 100000 in
theorem sa_kv99 : ∀ q ∈ sa_k99, decode cX7_setBeliefs q.1 = .ok q.2 ∧ sa_ln q.2.1 q.2.2 = true := by decide +kernel
set_option maxRecDepth 100000 in
def sa_k100 : List (Nat × Instr × Nat) := [(0, .aload_n 0, 1), (1, .getfield 11, 3), (4, .iconst 4, 1), (5, .iload_n 1, 1), (6, .imul, 1), (7, .iconst 4, 1), (8, .iadd, 1), (9, .iaload, 1), (10, .ireturn, 1)]
set_option maxRecDepth 100000 in
theorem sa_kv100 : ∀ q ∈ sa_k100, decode cX7_wary q.1 = .ok q.2 ∧ sa_ln q.2.1 q.2.2 = true := by decide +kernel
set_option maxRecDepth 100000 in
def sa_k101 : List (Nat × Instr × Nat) := [(0, .aload_n 0, 1), (1, .getfield 11, 3), (4, .iconst 4, 1), (5, .iload_n 1, 1), (6, .imul, 1), (7, .iconst 5, 1), (8, .iadd, 1), (9, .iaload, 1), (10, .ireturn, 1)]
set_option maxRecDepth 100000 in
theorem sa_kv101 : ∀ q ∈ sa_k101, decode cX7_cordOn q.1 = .ok q.2 ∧ sa_ln q.2.1 q.2.2 = true := by decide +kernel
set_option maxRecDepth 100000 in
def sa_k102 : List (Nat × Instr × Nat) := [(0, .aload_n 0, 1), (1, .getfield 11, 3), (4, .iconst 4, 1), (5, .iload_n 1, 1), (6, .imul, 1), (7, .bipush 6, 2), (9, .iadd, 1), (10, .iaload, 1), (11, .ireturn, 1)]
set_option maxRecDepth 100000 in
theorem sa_kv102 : ∀ q ∈ sa_k102, decode cX7_fate q.1 = .ok q.2 ∧ sa_ln q.2.1 q.2.2 = true := by decide +kernel
set_option maxRecDepth 100000 in
def sa_k103 : List (Nat × Instr × Nat) := [(0, .aload_n 0, 1), (1, .getfield 11, 3), (4, .iconst 4, 1), (5, .iload_n 1, 1), (6, .imul, 1), (7, .iconst 5, 1), (8, .iadd, 1), (9, .iload_n 2, 1), (10, .iastore, 1), (11, .return_, 1)]
set_option maxRecDepth 100000 in
theorem sa_kv103 : ∀ q ∈ sa_k103, decode cX7_setCord q.1 = .ok q.2 ∧ sa_ln q.2.1 q.2.2 = true := by decide +kernel
set_option maxRecDepth 100000 in
def sa_k104 : List (Nat × Instr × Nat) := [(0, .aload_n 0, 1), (1, .getfield 11, 3), (4, .iconst 4, 1), (5, .iload_n 1, 1), (6, .imul, 1), (7, .bipush 6, 2), (9, .iadd, 1), (10, .iload_n 2, 1), (11, .iastore, 1), (12, .return_, 1)]
set_option maxRecDepth 100000 in
theorem sa_kv104 : ∀ q ∈ sa_k104, decode cX7_setFate q.1 = .ok q.2 ∧ sa_ln q.2.1 q.2.2 = true := by decide +kernel
set_option maxRecDepth 100000 in
def sa_k105 : List (Nat × Instr × Nat) := [(0, .iconst 0, 1), (1, .istore_n 2, 1), (2, .iconst 0, 1), (3, .istore_n 3, 1), (4, .iload_n 3, 1), (5, .aload_n 0, 1), (6, .getfield 15, 3), (9, .getfield 25, 3), (12, .invokevirtual 29, 3), (15, .if_icmp .ge 24, 3), (18, .aload_n 0, 1), (19, .iload_n 3, 1), (20, .invokevirtual 44, 3), (23, .iload_n 1, 1), (24, .if_icmp .ne 9, 3), (27, .iload_n 2, 1), (28, .iconst 1, 1), (29, .iload_n 3, 1), (30, .ishl, 1), (31, .ior, 1), (32, .istore_n 2, 1), (33, .iinc 3 1, 3), (36, .goto (-32), 3), (39, .iload_n 2, 1), (40, .ireturn, 1)]
set_option maxRecDepth 100000 in
theorem sa_kv105 : ∀ q ∈ sa_k105, decode cX7_bitsOf q.1 = .ok q.2 ∧ sa_ln q.2.1 q.2.2 = true := by decide +kernel
set_option maxRecDepth 100000 in
def sa_k106 : List (Nat × Instr × Nat) := [(0, .iconst 0, 1), (1, .istore_n 1, 1), (2, .iconst 0, 1), (3, .istore_n 2, 1), (4, .iload_n 2, 1), (5, .aload_n 0, 1), (6, .getfield 15, 3), (9, .getfield 25, 3), (12, .invokevirtual 29, 3), (15, .if_icmp .ge 33, 3), (18, .aload_n 0, 1), (19, .iload_n 2, 1), (20, .invokevirtual 44, 3), (23, .iconst 1, 1), (24, .if_icmp .ne 18, 3), (27, .iload_n 1, 1), (28, .aload_n 0, 1), (29, .getfield 15, 3), (32, .getfield 25, 3), (35, .iload_n 2, 1), (36, .iconst 4, 1), (37, .invokevirtual 34, 3), (40, .iadd, 1), (41, .istore_n 1, 1), (42, .iinc 2 1, 3), (45, .goto (-41), 3), (48, .iload_n 1, 1), (49, .ireturn, 1)]
set_option maxRecDepth 100000 in
theorem sa_kv106 : ∀ q ∈ sa_k106, decode cX7_helpThere q.1 = .ok q.2 ∧ sa_ln q.2.1 q.2.2 = true := by decide +kernel
set_option maxRecDepth 100000 in
def sa_k107 : List (Nat × Instr × Nat) := [(0, .aload_n 0, 1), (1, .iload_n 1, 1), (2, .invokevirtual 44, 3), (5, .ifCond .ne 26, 3), (8, .aload_n 0, 1), (9, .invokevirtual 48, 3), (12, .aload_n 0, 1), (13, .getfield 15, 3), (16, .getfield 51, 3), (19, .iload_n 2, 1), (20, .iconst 5, 1), (21, .invokevirtual 34, 3), (24, .if_icmp .lt 7, 3), (27, .iconst 1, 1), (28, .goto 4, 3), (31, .iconst 0, 1), (32, .ireturn, 1)]
set_option maxRecDepth 100000 in
theorem sa_kv107 : ∀ q ∈ sa_k107, decode cX7_mayTry q.1 = .ok q.2 ∧ sa_ln q.2.1 q.2.2 = true := by decide +kernel
set_option maxRecDepth 100000 in
def sa_k108 : List (Nat × Instr × Nat) := [(0, .aload_n 0, 1), (1, .aload_n 0, 1), (2, .invokevirtual 48, 3), (5, .aload_n 0, 1), (6, .getfield 15, 3), (9, .getfield 51, 3), (12, .iload_n 2, 1), (13, .iconst 5, 1), (14, .invokevirtual 34, 3), (17, .isub, 1), (18, .invokevirtual 54, 3), (21, .aload_n 0, 1), (22, .getfield 15, 3), (25, .iload_n 2, 1), (26, .aload_n 0, 1), (27, .iload_n 1, 1), (28, .invokevirtual 58, 3), (31, .invokevirtual 61, 3), (34, .ifCond .ne 33, 3), (37, .aload_n 0, 1), (38, .getfield 11, 3), (41, .iconst 4, 1), (42, .iload_n 1, 1), (43, .imul, 1), (44, .iconst 4, 1), (45, .iadd, 1), (46, .bipush 9, 2), (48, .aload_n 0, 1), (49, .iload_n 1, 1), (50, .invokevirtual 65, 3), (53, .iconst 1, 1), (54, .iadd, 1), (55, .invokestatic 68, 3), (58, .iastore, 1), (59, .aload_n 0, 1), (60, .iload_n 1, 1), (61, .iconst 0, 1), (62, .invokevirtual 73, 3), (65, .iconst 0, 1), (66, .ireturn, 1), (67, .aload_n 0, 1), (68, .invokevirtual 77, 3), (71, .istore_n 3, 1), (72, .aload_n 0, 1), (73, .iload_n 1, 1), (74, .aload_n 0, 1), (75, .getfield 15, 3), (78, .iload_n 2, 1), (79, .aload_n 0, 1), (80, .iload_n 1, 1), (81, .invokevirtual 58, 3), (84, .invokevirtual 80, 3), (87, .invokevirtual 83, 3), (90, .aload_n 0, 1), (91, .iload_n 1, 1), (92, .aload_n 0, 1), (93, .getfield 15, 3), (96, .iload_n 2, 1), (97, .aload_n 0, 1), (98, .iload_n 1, 1), (99, .invokevirtual 86, 3), (102, .iload_n 3, 1), (103, .invokevirtual 89, 3), (106, .invokevirtual 73, 3), (109, .aload_n 0, 1), (110, .getfield 15, 3), (113, .iload_n 1, 1), (114, .aload_n 0, 1), (115, .iload_n 1, 1), (116, .invokevirtual 86, 3), (119, .aload_n 0, 1), (120, .iload_n 1, 1), (121, .invokevirtual 65, 3), (124, .aload_n 0, 1), (125, .iload_n 1, 1), (126, .invokevirtual 58, 3), (129, .iload_n 3, 1), (130, .invokevirtual 93, 3), (133, .ifCond .ne 5, 3), (136, .iconst 1, 1), (137, .ireturn, 1), (138, .aload_n 0, 1), (139, .iload_n 1, 1), (140, .iconst 1, 1), (141, .invokevirtual 97, 3), (144, .iconst 2, 1), (145, .ireturn, 1)]
set_option maxRecDepth 100000 in
theorem sa_kv108 : ∀ q ∈ sa_k108, decode cX7_tryTrick q.1 = .ok q.2 ∧ sa_ln q.2.1 q.2.2 = true := by decide +kernel
set_option maxRecDepth 100000 in
def sa_k109 : List (Nat × Instr × Nat) := [(0, .iconst 0, 1), (1, .istore_n 1, 1), (2, .iload_n 1, 1), (3, .aload_n 0, 1), (4, .getfield 15, 3), (7, .getfield 25, 3), (10, .invokevirtual 29, 3), (13, .if_icmp .ge 37, 3), (16, .aload_n 0, 1), (17, .iload_n 1, 1), (18, .invokevirtual 44, 3), (21, .ifCond .ne 23, 3), (24, .aload_n 0, 1), (25, .iload_n 1, 1), (26, .invokevirtual 86, 3), (29, .ifCond .le 15, 3), (32, .aload_n 0, 1), (33, .iload_n 1, 1), (34, .aload_n 0, 1), (35, .iload_n 1, 1), (36, .invokevirtual 86, 3), (39, .iconst 1, 1), (40, .isub, 1), (41, .invokevirtual 73, 3), (44, .iinc 1 1, 3), (47, .goto (-45), 3), (50, .aload_n 0, 1), (51, .invokevirtual 100, 3), (54, .aload_n 0, 1), (55, .getfield 11, 3), (58, .iconst 1, 1), (59, .dup2, 1), (60, .iaload, 1), (61, .iconst 1, 1), (62, .iadd, 1), (63, .iastore, 1), (64, .return_, 1)]
set_option maxRecDepth 100000 in
theorem sa_kv109 : ∀ q ∈ sa_k109, decode cX7_passDay q.1 = .ok q.2 ∧ sa_ln q.2.1 q.2.2 = true := by decide +kernel
set_option maxRecDepth 100000 in
def sa_k110 : List (Nat × Instr × Nat) := [(0, .aload_n 0, 1), (1, .getfield 15, 3), (4, .aload_n 0, 1), (5, .invokevirtual 103, 3), (8, .iconst 1, 1), (9, .iadd, 1), (10, .invokevirtual 106, 3), (13, .ifCond .ne 4, 3), (16, .return_, 1), (17, .iconst (-1), 1), (18, .istore_n 1, 1), (19, .iconst 0, 1), (20, .istore_n 2, 1), (21, .iload_n 2, 1), (22, .aload_n 0, 1), (23, .getfield 15, 3), (26, .getfield 25, 3), (29, .invokevirtual 29, 3), (32, .if_icmp .ge 60, 3), (35, .aload_n 0, 1), (36, .iload_n 2, 1), (37, .invokevirtual 44, 3), (40, .iconst 1, 1), (41, .if_icmp .ne 45, 3), (44, .iload_n 2, 1), (45, .aload_n 0, 1), (46, .invokevirtual 110, 3), (49, .if_icmp .eq 37, 3), (52, .iload_n 1, 1), (53, .iconst (-1), 1), (54, .if_icmp .eq 30, 3), (57, .aload_n 0, 1), (58, .getfield 15, 3), (61, .getfield 25, 3), (64, .iload_n 2, 1), (65, .iconst 3, 1), (66, .invokevirtual 34, 3), (69, .aload_n 0, 1), (70, .getfield 15, 3), (73, .getfield 25, 3), (76, .iload_n 1, 1), (77, .iconst 3, 1), (78, .invokevirtual 34, 3), (81, .if_icmp .le 5, 3), (84, .iload_n 2, 1), (85, .istore_n 1, 1), (86, .iinc 2 1, 3), (89, .goto (-68), 3), (92, .iload_n 1, 1), (93, .iconst (-1), 1), (94, .if_icmp .eq 9, 3), (97, .aload_n 0, 1), (98, .iload_n 1, 1), (99, .iconst 2, 1), (100, .invokevirtual 97, 3), (103, .return_, 1)]
set_option maxRecDepth 100000 in
theorem sa_kv110 : ∀ q ∈ sa_k110, decode cX7_stealIfRivalComes q.1 = .ok q.2 ∧ sa_ln q.2.1 q.2.2 = true := by decide +kernel
set_option maxRecDepth 100000 in
def sa_k111 : List (Nat × Instr × Nat) := [(0, .aload_n 0, 1), (1, .invokespecial 1, 3), (4, .aload_n 0, 1), (5, .iconst 0, 1), (6, .putfield 7, 3), (9, .aload_n 0, 1), (10, .iload_n 1, 1), (11, .putfield 13, 3), (14, .aload_n 0, 1), (15, .aload_n 2, 1), (16, .putfield 16, 3), (19, .aload_n 0, 1), (20, .iload_n 1, 1), (21, .aload_n 2, 1), (22, .arraylength, 1), (23, .imul, 1), (24, .newarray .int, 2), (26, .putfield 20, 3), (29, .return_, 1)]
set_option maxRecDepth 100000 in
theorem sa_kv111 : ∀ q ∈ sa_k111, decode cX8_init q.1 = .ok q.2 ∧ sa_ln q.2.1 q.2.2 = true := by decide +kernel
set_option maxRecDepth 100000 in
def sa_k112 : List (Nat × Instr × Nat) := [(0, .aload_n 0, 1), (1, .getfield 7, 3), (4, .ireturn, 1)]
set_option maxRecDepth 100000 in
theorem sa_kv112 : ∀ q ∈ sa_k112, decode cX8_size q.1 = .ok q.2 ∧ sa_ln q.2.1 q.2.2 = true := by decide +kernel
set_option maxRecDepth 100000 in
def sa_k113 : List (Nat × Instr × Nat) := [(0, .aload_n 0, 1), (1, .getfield 16, 3), (4, .arraylength, 1), (5, .ireturn, 1)]
set_option maxRecDepth 100000 in
theorem sa_kv113 : ∀ q ∈ sa_k113, decode cX8_width q.1 = .ok q.2 ∧ sa_ln q.2.1 q.2.2 = true := by decide +kernel
set_option maxRecDepth 100000 in
def sa_k114 : List (Nat × Instr × Nat) := [(0, .aload_n 0, 1), (1, .getfield 16, 3), (4, .iload_n 1, 1), (5, .iaload, 1), (6, .ireturn, 1)]
set_option maxRecDepth 100000 in
theorem sa_kv114 : ∀ q ∈ sa_k114, decode cX8_limit q.1 = .ok q.2 ∧ sa_ln q.2.1 q.2.2 = true := by decide +kernel
set_option maxRecDepth 100000 in
def sa_k115 : List (Nat × Instr × Nat) := [(0, .aload_n 0, 1), (1, .getfield 7, 3), (4, .aload_n 0, 1), (5, .getfield 13, 3), (8, .if_icmp .lt 7, 3), (11, .iconst 1, 1), (12, .goto 4, 3), (15, .iconst 0, 1), (16, .ireturn, 1)]
set_option maxRecDepth 100000 in
theorem sa_kv115 : ∀ q ∈ sa_k115, decode cX8_isFull q.1 = .ok q.2 ∧ sa_ln q.2.1 q.2.2 = true := by decide +kernel
set_option maxRecDepth 100000 in
def sa_k116 : List (Nat × Instr × Nat) := [(0, .iload_n 1, 1), (1, .ifCond .lt 15, 3), (4, .iload_n 1, 1), (5, .aload_n 0, 1), (6, .getfield 7, 3), (9, .if_icmp .ge 7, 3), (12, .iconst 1, 1), (13, .goto 4, 3), (16, .iconst 0, 1), (17, .ireturn, 1)]
set_option maxRecDepth 100000 in
theorem sa_kv116 : ∀ q ∈ sa_k116, decode cX8_has q.1 = .ok q.2 ∧ sa_ln q.2.1 q.2.2 = true := by decide +kernel
set_option maxRecDepth 100000 in
def sa_k117 : List (Nat × Instr × Nat) := [(0, .iconst 1, 1), (1, .aload_n 0, 1), (2, .getfield 7, 3), (5, .ishl, 1), (6, .iconst 1, 1), (7, .isub, 1), (8, .ireturn, 1)]
set_option maxRecDepth 100000 in
theorem sa_kv117 : ∀ q ∈ sa_k117, decode cX8_all q.1 = .ok q.2 ∧ sa_ln q.2.1 q.2.2 = true := by decide +kernel
set_option maxRecDepth 100000 in
def sa_k118 : List (Nat × Instr × Nat) := [(0, .aload_n 0, 1), (1, .getfield 20, 3), (4, .iload_n 1, 1), (5, .aload_n 0, 1), (6, .getfield 16, 3), (9, .arraylength, 1), (10, .imul, 1), (11, .iload_n 2, 1), (12, .iadd, 1), (13, .iaload, 1), (14, .ireturn, 1)]
set_option maxRecDepth 100000 in
theorem sa_kv118 : ∀ q ∈ sa_k118, decode cX8_get q.1 = .ok q.2 ∧ sa_ln q.2.1 q.2.2 = true := by decide +kernel
set_option maxRecDepth 100000 in
def sa_k119 : List (Nat × Instr × Nat) := [(0, .aload_n 0, 1), (1, .iconst 0, 1), (2, .putfield 7, 3), (5, .return_, 1)]
set_option maxRecDepth 100000 in
theorem sa_kv119 : ∀ q ∈ sa_k119, decode cX8_clear q.1 = .ok q.2 ∧ sa_ln q.2.1 q.2.2 = true := by decide +kernel
set_option maxRecDepth 100000 in
def sa_k120 : List (Nat × Instr × Nat) := [(0, .aload_n 0, 1), (1, .getfield 7, 3), (4, .aload_n 0, 1), (5, .getfield 13, 3), (8, .if_icmp .ge 21, 3), (11, .aload_n 0, 1), (12, .getfield 20, 3), (15, .aload_n 0, 1), (16, .getfield 7, 3), (19, .aload_n 0, 1), (20, .getfield 16, 3), (23, .arraylength, 1), (24, .imul, 1), (25, .iload_n 1, 1), (26, .iadd, 1), (27, .iload_n 2, 1), (28, .iastore, 1), (29, .return_, 1)]
set_option maxRecDepth 100000 in
theorem sa_kv120 : ∀ q ∈ sa_k120, decode cX8_put q.1 = .ok q.2 ∧ sa_ln q.2.1 q.2.2 = true := by decide +kernel
set_option maxRecDepth 100000 in
def sa_k121 : List (Nat × Instr × Nat) := [(0, .aload_n 0, 1), (1, .getfield 7, 3), (4, .aload_n 0, 1), (5, .getfield 13, 3), (8, .if_icmp .ge 13, 3), (11, .aload_n 0, 1), (12, .dup, 1), (13, .getfield 7, 3), (16, .iconst 1, 1), (17, .iadd, 1), (18, .putfield 7, 3), (21, .return_, 1)]
set_option maxRecDepth 100000 in
theorem sa_kv121 : ∀ q ∈ sa_k121, decode cX8_endRow q.1 = .ok q.2 ∧ sa_ln q.2.1 q.2.2 = true := by decide +kernel
set_option maxRecDepth 100000 in
def sa_k122 : List (Nat × Instr × Nat) := [(0, .aload_n 0, 1), (1, .aload_n 1, 1), (2, .getfield 7, 3), (5, .putfield 7, 3), (8, .aload_n 1, 1), (9, .getfield 20, 3), (12, .iconst 0, 1), (13, .aload_n 0, 1), (14, .getfield 20, 3), (17, .iconst 0, 1), (18, .aload_n 0, 1), (19, .getfield 20, 3), (22, .arraylength, 1), (23, .invokestatic 23, 3), (26, .return_, 1)]
set_option maxRecDepth 100000 in
theorem sa_kv122 : ∀ q ∈ sa_k122, decode cX8_copyFrom q.1 = .ok q.2 ∧ sa_ln q.2.1 q.2.2 = true := by decide +kernel
set_option maxRecDepth 100000 in
def sa_k123 : List (Nat × Instr × Nat) := [(0, .aload_n 0, 1), (1, .invokespecial 1, 3), (4, .aload_n 0, 1), (5, .iconst 0, 1), (6, .putfield 7, 3), (9, .aload_n 0, 1), (10, .iconst 0, 1), (11, .putfield 13, 3), (14, .aload_n 0, 1), (15, .iconst 0, 1), (16, .putfield 16, 3), (19, .aload_n 0, 1), (20, .iconst 0, 1), (21, .putfield 19, 3), (24, .aload_n 0, 1), (25, .iconst 0, 1), (26, .putfield 22, 3), (29, .aload_n 0, 1), (30, .iconst 0, 1), (31, .putfield 25, 3), (34, .aload_n 0, 1), (35, .aload_n 1, 1), (36, .putfield 28, 3), (39, .return_, 1)]
set_option maxRecDepth 100000 in
theorem sa_kv123 : ∀ q ∈ sa_k123, decode cX9_init q.1 = .ok q.2 ∧ sa_ln q.2.1 q.2.2 = true := by decide +kernel
set_option maxRecDepth 100000 in
def sa_k124 : List (Nat × Instr × Nat) := [(0, .aload_n 0, 1), (1, .iconst 0, 1), (2, .iload_n 1, 1), (3, .aload_n 0, 1), (4, .getfield 28, 3), (7, .arraylength, 1), (8, .invokestatic 32, 3), (11, .invokestatic 38, 3), (14, .putfield 7, 3), (17, .aload_n 0, 1), (18, .iconst 0, 1), (19, .putfield 16, 3), (22, .aload_n 0, 1), (23, .invokevirtual 41, 3), (26, .return_, 1)]
set_option maxRecDepth 100000 in
theorem sa_kv124 : ∀ q ∈ sa_k124, decode cX9_open q.1 = .ok q.2 ∧ sa_ln q.2.1 q.2.2 = true := by decide +kernel
set_option maxRecDepth 100000 in
def sa_k125 : List (Nat × Instr × Nat) := [(0, .aload_n 0, 1), (1, .getfield 19, 3), (4, .ireturn, 1)]
set_option maxRecDepth 100000 in
theorem sa_kv125 : ∀ q ∈ sa_k125, decode cX9_kind q.1 = .ok q.2 ∧ sa_ln q.2.1 q.2.2 = true := by decide +kernel
set_option maxRecDepth 100000 in
def sa_k126 : List (Nat × Instr × Nat) := [(0, .aload_n 0, 1), (1, .getfield 13, 3), (4, .ireturn, 1)]
set_option maxRecDepth 100000 in
theorem sa_kv126 : ∀ q ∈ sa_k126, decode cX9_start q.1 = .ok q.2 ∧ sa_ln q.2.1 q.2.2 = true := by decide +kernel
set_option maxRecDepth 100000 in
def sa_k127 : List (Nat × Instr × Nat) := [(0, .aload_n 0, 1), (1, .getfield 22, 3), (4, .ireturn, 1)]
set_option maxRecDepth 100000 in
theorem sa_kv127 : ∀ q ∈ sa_k127, decode cX9_value q.1 = .ok q.2 ∧ sa_ln q.2.1 q.2.2 = true := by decide +kernel
set_option maxRecDepth 100000 in
def sa_k128 : List (Nat × Instr × Nat) := [(0, .aload_n 0, 1), (1, .getfield 19, 3), (4, .bipush 100, 2), (6, .if_icmp .lt 7, 3), (9, .iconst 1, 1), (10, .goto 4, 3), (13, .iconst 0, 1), (14, .ireturn, 1)]
set_option maxRecDepth 100000 in
theorem sa_kv128 : ∀ q ∈ sa_k128, decode cX9_isWord q.1 = .ok q.2 ∧ sa_ln q.2.1 q.2.2 = true := by decide +kernel
set_option maxRecDepth 100000 in
def sa_k129 : List (Nat × Instr × Nat) := [(0, .aload_n 0, 1), (1, .getfield 19, 3), (4, .bipush 111, 2), (6, .if_icmp .lt 16, 3), (9, .aload_n 0, 1), (10, .getfield 19, 3), (13, .bipush 116, 2), (15, .if_icmp .gt 7, 3), (18, .iconst 1, 1), (19, .goto 4, 3), (22, .iconst 0, 1), (23, .ireturn, 1)]
set_option maxRecDepth 100000 in
theorem sa_kv129 : ∀ q ∈ sa_k129, decode cX9_isValue q.1 = .ok q.2 ∧ sa_ln q.2.1 q.2.2 = true := by decide +kernel
set_option maxRecDepth 100000 in
def sa_k130 : List (Nat × Instr × Nat) := [(0, .aload_n 0, 1), (1, .getfield 25, 3), (4, .iconst 4, 1), (5, .if_icmp .le 7, 3), (8, .iconst 1, 1), (9, .goto 4, 3), (12, .iconst 0, 1), (13, .ireturn, 1)]
set_option maxRecDepth 100000 in
theorem sa_kv130 : ∀ q ∈ sa_k130, decode cX9_hasTooManyDigits q.1 = .ok q.2 ∧ sa_ln q.2.1 q.2.2 = true := by decide +kernel
set_option maxRecDepth 100000 in
def sa_k131 : List (Nat × Instr × Nat) := [(0, .aload_n 0, 1), (1, .getfield 16, 3), (4, .aload_n 0, 1), (5, .getfield 7, 3), (8, .if_icmp .ge 31, 3), (11, .aload_n 0, 1), (12, .getfield 28, 3), (15, .aload_n 0, 1), (16, .getfield 16, 3), (19, .baload, 1), (20, .invokestatic 44, 3), (23, .ifCond .eq 16, 3), (26, .aload_n 0, 1), (27, .dup, 1), (28, .getfield 16, 3), (31, .iconst 1, 1), (32, .iadd, 1), (33, .putfield 16, 3), (36, .goto (-36), 3), (39, .aload_n 0, 1), (40, .aload_n 0, 1), (41, .getfield 16, 3), (44, .putfield 13, 3), (47, .aload_n 0, 1), (48, .getfield 13, 3), (51, .aload_n 0, 1), (52, .getfield 7, 3), (55, .if_icmp .lt 11, 3), (58, .aload_n 0, 1), (59, .iconst 0, 1), (60, .putfield 19, 3), (63, .goto 89, 3), (66, .aload_n 0, 1), (67, .getfield 28, 3), (70, .aload_n 0, 1), (71, .getfield 13, 3), (74, .baload, 1), (75, .invokestatic 48, 3), (78, .ifCond .eq 10, 3), (81, .aload_n 0, 1), (82, .invokevirtual 51, 3), (85, .goto 67, 3), (88, .aload_n 0, 1), (89, .getfield 28, 3), (92, .aload_n 0, 1), (93, .getfield 13, 3), (96, .baload, 1), (97, .invokestatic 54, 3), (100, .ifCond .eq 10, 3), (103, .aload_n 0, 1), (104, .invokevirtual 57, 3), (107, .goto 45, 3), (110, .aload_n 0, 1), (111, .aload_n 0, 1), (112, .getfield 28, 3), (115, .aload_n 0, 1), (116, .getfield 13, 3), (119, .baload, 1), (120, .invokestatic 60, 3), (123, .ifCond .eq 15, 3), (126, .aload_n 0, 1), (127, .getfield 28, 3), (130, .aload_n 0, 1), (131, .getfield 13, 3), (134, .baload, 1), (135, .goto 4, 3), (138, .iconst 1, 1), (139, .putfield 19, 3), (142, .aload_n 0, 1), (143, .dup, 1), (144, .getfield 16, 3), (147, .iconst 1, 1), (148, .iadd, 1), (149, .putfield 16, 3), (152, .return_, 1)]
set_option maxRecDepth 100000 in
theorem sa_kv131 : ∀ q ∈ sa_k131, decode cX9_step q.1 = .ok q.2 ∧ sa_ln q.2.1 q.2.2 = true := by decide +kernel
set_option maxRecDepth 100000 in
def sa_k132 : List (Nat × Instr × Nat) := [(0, .aload_n 0, 1), (1, .iconst 2, 1), (2, .putfield 19, 3), (5, .aload_n 0, 1), (6, .iconst 0, 1), (7, .putfield 22, 3), (10, .aload_n 0, 1), (11, .iconst 0, 1), (12, .putfield 25, 3), (15, .aload_n 0, 1), (16, .getfield 16, 3), (19, .aload_n 0, 1), (20, .getfield 7, 3), (23, .if_icmp .ge 73, 3), (26, .aload_n 0, 1), (27, .getfield 28, 3), (30, .aload_n 0, 1), (31, .getfield 16, 3), (34, .baload, 1), (35, .invokestatic 48, 3), (38, .ifCond .eq 58, 3), (41, .aload_n 0, 1), (42, .dup, 1), (43, .getfield 25, 3), (46, .iconst 1, 1), (47, .iadd, 1), (48, .putfield 25, 3), (51, .aload_n 0, 1), (52, .getfield 25, 3), (55, .iconst 4, 1), (56, .if_icmp .gt 27, 3), (59, .aload_n 0, 1), (60, .aload_n 0, 1), (61, .getfield 22, 3), (64, .bipush 10, 2), (66, .imul, 1), (67, .aload_n 0, 1), (68, .getfield 28, 3), (71, .aload_n 0, 1), (72, .getfield 16, 3), (75, .baload, 1), (76, .bipush 48, 2), (78, .isub, 1), (79, .iadd, 1), (80, .putfield 22, 3), (83, .aload_n 0, 1), (84, .dup, 1), (85, .getfield 16, 3), (88, .iconst 1, 1), (89, .iadd, 1), (90, .putfield 16, 3), (93, .goto (-78), 3), (96, .return_, 1)]
set_option maxRecDepth 100000 in
theorem sa_kv132 : ∀ q ∈ sa_k132, decode cX9_readNumber q.1 = .ok q.2 ∧ sa_ln q.2.1 q.2.2 = true := by decide +kernel
set_option maxRecDepth 100000 in
def sa_k133 : List (Nat × Instr × Nat) := [(0, .aload_n 0, 1), (1, .getfield 16, 3), (4, .aload_n 0, 1), (5, .getfield 7, 3), (8, .if_icmp .ge 31, 3), (11, .aload_n 0, 1), (12, .getfield 28, 3), (15, .aload_n 0, 1), (16, .getfield 16, 3), (19, .baload, 1), (20, .invokestatic 54, 3), (23, .ifCond .eq 16, 3), (26, .aload_n 0, 1), (27, .dup, 1), (28, .getfield 16, 3), (31, .iconst 1, 1), (32, .iadd, 1), (33, .putfield 16, 3), (36, .goto (-36), 3), (39, .aload_n 0, 1), (40, .aload_n 0, 1), (41, .ldc 63, 2), (43, .invokevirtual 65, 3), (46, .ifCond .eq 8, 3), (49, .bipush 101, 2), (51, .goto 215, 3), (54, .aload_n 0, 1), (55, .ldc 69, 2), (57, .invokevirtual 65, 3), (60, .ifCond .eq 8, 3), (63, .bipush 102, 2), (65, .goto 201, 3), (68, .aload_n 0, 1), (69, .ldc 71, 2), (71, .invokevirtual 65, 3), (74, .ifCond .eq 8, 3), (77, .bipush 103, 2), (79, .goto 187, 3), (82, .aload_n 0, 1), (83, .ldc 73, 2), (85, .invokevirtual 65, 3), (88, .ifCond .eq 8, 3), (91, .bipush 104, 2), (93, .goto 173, 3), (96, .aload_n 0, 1), (97, .ldc 75, 2), (99, .invokevirtual 65, 3), (102, .ifCond .eq 8, 3), (105, .bipush 105, 2), (107, .goto 159, 3), (110, .aload_n 0, 1), (111, .ldc 77, 2), (113, .invokevirtual 65, 3), (116, .ifCond .eq 8, 3), (119, .bipush 106, 2), (121, .goto 145, 3), (124, .aload_n 0, 1), (125, .ldc 79, 2), (127, .invokevirtual 65, 3), (130, .ifCond .eq 8, 3), (133, .bipush 107, 2), (135, .goto 131, 3), (138, .aload_n 0, 1), (139, .ldc 81, 2), (141, .invokevirtual 65, 3), (144, .ifCond .eq 8, 3), (147, .bipush 108, 2), (149, .goto 117, 3), (152, .aload_n 0, 1), (153, .ldc 83, 2), (155, .invokevirtual 65, 3), (158, .ifCond .eq 8, 3), (161, .bipush 109, 2), (163, .goto 103, 3), (166, .aload_n 0, 1), (167, .ldc 85, 2), (169, .invokevirtual 65, 3), (172, .ifCond .eq 8, 3), (175, .bipush 110, 2), (177, .goto 89, 3), (180, .aload_n 0, 1), (181, .ldc 87, 2), (183, .invokevirtual 65, 3), (186, .ifCond .eq 8, 3), (189, .bipush 111, 2), (191, .goto 75, 3), (194, .aload_n 0, 1), (195, .ldc 91, 2), (197, .invokevirtual 65, 3), (200, .ifCond .eq 8, 3), (203, .bipush 112, 2), (205, .goto 61, 3), (208, .aload_n 0, 1), (209, .ldc 93, 2), (211, .invokevirtual 65, 3), (214, .ifCond .eq 8, 3), (217, .bipush 113, 2), (219, .goto 47, 3), (222, .aload_n 0, 1), (223, .ldc 95, 2), (225, .invokevirtual 65, 3), (228, .ifCond .eq 8, 3), (231, .bipush 114, 2), (233, .goto 33, 3), (236, .aload_n 0, 1), (237, .ldc 97, 2), (239, .invokevirtual 65, 3), (242, .ifCond .eq 8, 3), (245, .bipush 115, 2), (247, .goto 19, 3), (250, .aload_n 0, 1), (251, .ldc 99, 2), (253, .invokevirtual 65, 3), (256, .ifCond .eq 8, 3), (259, .bipush 116, 2), (261, .goto 5, 3), (264, .bipush 100, 2), (266, .putfield 19, 3), (269, .return_, 1)]
set_option maxRecDepth 100000 in
theorem sa_kv133 : ∀ q ∈ sa_k133, decode cX9_readWord q.1 = .ok q.2 ∧ sa_ln q.2.1 q.2.2 = true := by decide +kernel
set_option maxRecDepth 100000 in
def sa_k134 : List (Nat × Instr × Nat) := [(0, .aload_n 0, 1), (1, .getfield 16, 3), (4, .aload_n 0, 1), (5, .getfield 13, 3), (8, .isub, 1), (9, .aload_n 1, 1), (10, .invokevirtual 101, 3), (13, .if_icmp .eq 5, 3), (16, .iconst 0, 1), (17, .ireturn, 1), (18, .iconst 0, 1), (19, .istore_n 2, 1), (20, .iload_n 2, 1), (21, .aload_n 1, 1), (22, .invokevirtual 101, 3), (25, .if_icmp .ge 30, 3), (28, .aload_n 0, 1), (29, .getfield 28, 3), (32, .aload_n 0, 1), (33, .getfield 13, 3), (36, .iload_n 2, 1), (37, .iadd, 1), (38, .baload, 1), (39, .aload_n 1, 1), (40, .iload_n 2, 1), (41, .invokevirtual 106, 3), (44, .if_icmp .eq 5, 3), (47, .iconst 0, 1), (48, .ireturn, 1), (49, .iinc 2 1, 3), (52, .goto (-32), 3), (55, .iconst 1, 1), (56, .ireturn, 1)]
set_option maxRecDepth 100000 in
theorem sa_kv134 : ∀ q ∈ sa_k134, decode cX9_spells q.1 = .ok q.2 ∧ sa_ln q.2.1 q.2.2 = true := by decide +kernel
set_option maxRecDepth 100000 in
def sa_k135 : List (Nat × Instr × Nat) := [(0, .iload_n 0, 1), (1, .bipush 32, 2), (3, .if_icmp .eq 9, 3), (6, .iload_n 0, 1), (7, .bipush 10, 2), (9, .if_icmp .ne 7, 3), (12, .iconst 1, 1), (13, .goto 4, 3), (16, .iconst 0, 1), (17, .ireturn, 1)]
set_option maxRecDepth 100000 in
theorem sa_kv135 : ∀ q ∈ sa_k135, decode cX9_isBlank q.1 = .ok q.2 ∧ sa_ln q.2.1 q.2.2 = true := by decide +kernel
set_option maxRecDepth 100000 in
def sa_k136 : List (Nat × Instr × Nat) := [(0, .iload_n 0, 1), (1, .bipush 48, 2), (3, .if_icmp .lt 13, 3), (6, .iload_n 0, 1), (7, .bipush 57, 2), (9, .if_icmp .gt 7, 3), (12, .iconst 1, 1), (13, .goto 4, 3), (16, .iconst 0, 1), (17, .ireturn, 1)]
set_option maxRecDepth 100000 in
theorem sa_kv136 : ∀ q ∈ sa_k136, decode cX9_isDigit q.1 = .ok q.2 ∧ sa_ln q.2.1 q.2.2 = true := by decide +kernel
set_option maxRecDepth 100000 in
def sa_k137 : List (Nat × Instr × Nat) := [(0, .iload_n 0, 1), (1, .bipush 97, 2), (3, .if_icmp .lt 13, 3), (6, .iload_n 0, 1), (7, .bipush 122, 2), (9, .if_icmp .gt 7, 3), (12, .iconst 1, 1), (13, .goto 4, 3), (16, .iconst 0, 1), (17, .ireturn, 1)]
set_option maxRecDepth 100000 in
theorem sa_kv137 : ∀ q ∈ sa_k137, decode cX9_isLetter q.1 = .ok q.2 ∧ sa_ln q.2.1 q.2.2 = true := by decide +kernel
set_option maxRecDepth 100000 in
def sa_k138 : List (Nat × Instr × Nat) := [(0, .iload_n 0, 1), (1, .tableswitch 105 40 61 #[103, 103, 103, 103, 105, 103, 105, 103, 105, 105, 105, 105, 105, 105, 105, 105, 105, 105, 105, 103, 103, 103], 103), (104, .iconst 1, 1), (105, .ireturn, 1), (106, .iconst 0, 1), (107, .ireturn, 1)]
set_option maxRecDepth 100000 in
theorem sa_kv138 : ∀ q ∈ sa_k138, decode cX9_isSign q.1 = .ok q.2 ∧ sa_ln q.2.1 q.2.2 = true := by decide +kernel
set_option maxRecDepth 100000 in
def sa_k139 : List (Nat × Instr × Nat) := [(0, .aload_n 0, 1), (1, .invokespecial 3, 3), (4, .aload_n 0, 1), (5, .sipush 1080, 3), (8, .newarray .int, 2), (10, .putfield 11, 3), (13, .aload_n 0, 1), (14, .iconst 0, 1), (15, .putfield 17, 3), (18, .aload_n 0, 1), (19, .iconst 0, 1), (20, .putfield 21, 3), (23, .aload_n 0, 1), (24, .bipush 8, 2), (26, .newarray .int, 2), (28, .putfield 24, 3), (31, .aload_n 0, 1), (32, .iconst 0, 1), (33, .putfield 27, 3), (36, .aload_n 0, 1), (37, .new 9, 3), (40, .dup, 1), (41, .aload_n 1, 1), (42, .invokespecial 30, 3), (45, .putfield 33, 3), (48, .return_, 1)]
set_option maxRecDepth 100000 in
theorem sa_kv139 : ∀ q ∈ sa_k139, decode cX10_init q.1 = .ok q.2 ∧ sa_ln q.2.1 q.2.2 = true := by decide +kernel
set_option maxRecDepth 100000 in
def sa_k140 : List (Nat × Instr × Nat) := [(0, .aload_n 0, 1), (1, .getfield 33, 3), (4, .invokevirtual 37, 3), (7, .aload_n 0, 1), (8, .iconst 0, 1), (9, .putfield 17, 3), (12, .aload_n 0, 1), (13, .iconst 0, 1), (14, .putfield 21, 3), (17, .aload_n 0, 1), (18, .iconst 0, 1), (19, .putfield 27, 3), (22, .return_, 1)]
set_option maxRecDepth 100000 in
theorem sa_kv140 : ∀ q ∈ sa_k140, decode cX10_begin q.1 = .ok q.2 ∧ sa_ln q.2.1 q.2.2 = true := by decide +kernel
set_option maxRecDepth 100000 in
def sa_k141 : List (Nat × Instr × Nat) := [(0, .aload_n 0, 1), (1, .getfield 33, 3), (4, .aload_n 1, 1), (5, .getfield 33, 3), (8, .invokevirtual 40, 3), (11, .aload_n 1, 1), (12, .getfield 11, 3), (15, .iconst 0, 1), (16, .aload_n 0, 1), (17, .getfield 11, 3), (20, .iconst 0, 1), (21, .aload_n 0, 1), (22, .getfield 11, 3), (25, .arraylength, 1), (26, .invokestatic 44, 3), (29, .aload_n 0, 1), (30, .aload_n 1, 1), (31, .getfield 17, 3), (34, .putfield 17, 3), (37, .aload_n 0, 1), (38, .aload_n 1, 1), (39, .getfield 21, 3), (42, .putfield 21, 3), (45, .aload_n 1, 1), (46, .getfield 24, 3), (49, .iconst 0, 1), (50, .aload_n 0, 1), (51, .getfield 24, 3), (54, .iconst 0, 1), (55, .bipush 8, 2), (57, .invokestatic 44, 3), (60, .aload_n 0, 1), (61, .aload_n 1, 1), (62, .getfield 27, 3), (65, .putfield 27, 3), (68, .return_, 1)]
set_option maxRecDepth 100000 in
theorem sa_kv141 : ∀ q ∈ sa_k141, decode cX10_copyFrom q.1 = .ok q.2 ∧ sa_ln q.2.1 q.2.2 = true := by decide +kernel
set_option maxRecDepth 100000 in
def sa_k142 : List (Nat × Instr × Nat) := [(0, .aload_n 0, 1), (1, .getfield 21, 3), (4, .ireturn, 1)]
set_option maxRecDepth 100000 in
theorem sa_kv142 : ∀ q ∈ sa_k142, decode cX10_acts q.1 = .ok q.2 ∧ sa_ln q.2.1 q.2.2 = true := by decide +kernel
set_option maxRecDepth 100000 in
def sa_k143 : List (Nat × Instr × Nat) := [(0, .aload_n 0, 1), (1, .getfield 17, 3), (4, .aload_n 0, 1), (5, .getfield 21, 3), (8, .iadd, 1), (9, .bipush 40, 2), (11, .irem, 1), (12, .istore_n 1, 1), (13, .aload_n 0, 1), (14, .getfield 33, 3), (17, .getfield 50, 3), (20, .iconst 0, 1), (21, .aload_n 0, 1), (22, .getfield 11, 3), (25, .iload_n 1, 1), (26, .bipush 27, 2), (28, .imul, 1), (29, .bipush 27, 2), (31, .invokestatic 44, 3), (34, .aload_n 0, 1), (35, .getfield 21, 3), (38, .bipush 40, 2), (40, .if_icmp .ge 16, 3), (43, .aload_n 0, 1), (44, .dup, 1), (45, .getfield 21, 3), (48, .iconst 1, 1), (49, .iadd, 1), (50, .putfield 21, 3), (53, .goto 16, 3), (56, .aload_n 0, 1), (57, .aload_n 0, 1), (58, .getfield 17, 3), (61, .iconst 1, 1), (62, .iadd, 1), (63, .bipush 40, 2), (65, .irem, 1), (66, .putfield 17, 3), (69, .return_, 1)]
set_option maxRecDepth 100000 in
theorem sa_kv143 : ∀ q ∈ sa_k143, decode cX10_remember q.1 = .ok q.2 ∧ sa_ln q.2.1 q.2.2 = true := by decide +kernel
set_option maxRecDepth 100000 in
def sa_k144 : List (Nat × Instr × Nat) := [(0, .aload_n 0, 1), (1, .getfield 21, 3), (4, .ifCond .ne 5, 3), (7, .iconst 0, 1), (8, .ireturn, 1), (9, .aload_n 0, 1), (10, .dup, 1), (11, .getfield 21, 3), (14, .iconst 1, 1), (15, .isub, 1), (16, .putfield 21, 3), (19, .aload_n 0, 1), (20, .getfield 17, 3), (23, .aload_n 0, 1), (24, .getfield 21, 3), (27, .iadd, 1), (28, .bipush 40, 2), (30, .irem, 1), (31, .istore_n 1, 1), (32, .aload_n 0, 1), (33, .getfield 11, 3), (36, .iload_n 1, 1), (37, .bipush 27, 2), (39, .imul, 1), (40, .aload_n 0, 1), (41, .getfield 33, 3), (44, .getfield 50, 3), (47, .iconst 0, 1), (48, .bipush 27, 2), (50, .invokestatic 44, 3), (53, .iconst 1, 1), (54, .ireturn, 1)]
set_option maxRecDepth 100000 in
theorem sa_kv144 : ∀ q ∈ sa_k144, decode cX10_takeBack q.1 = .ok q.2 ∧ sa_ln q.2.1 q.2.2 = true := by decide +kernel
set_option maxRecDepth 100000 in
def sa_k145 : List (Nat × Instr × Nat) := [(0, .aload_n 0, 1), (1, .getfield 27, 3), (4, .ireturn, 1)]
set_option maxRecDepth 100000 in
theorem sa_kv145 : ∀ q ∈ sa_k145, decode cX10_marks q.1 = .ok q.2 ∧ sa_ln q.2.1 q.2.2 = true := by decide +kernel
set_option maxRecDepth 100000 in
def sa_k146 : List (Nat × Instr × Nat) := [(0, .aload_n 0, 1), (1, .getfield 27, 3), (4, .bipush 8, 2), (6, .if_icmp .ge 45, 3), (9, .aload_n 0, 1), (10, .getfield 24, 3), (13, .aload_n 0, 1), (14, .getfield 27, 3), (17, .iload_n 1, 1), (18, .bipush 8, 2), (20, .ishl, 1), (21, .iload_n 2, 1), (22, .iconst 5, 1), (23, .ishl, 1), (24, .ior, 1), (25, .iload_n 3, 1), (26, .iconst 1, 1), (27, .ishl, 1), (28, .ior, 1), (29, .iload 4, 2), (31, .ifCond .eq 7, 3), (34, .iconst 1, 1), (35, .goto 4, 3), (38, .iconst 0, 1), (39, .ior, 1), (40, .iastore, 1), (41, .aload_n 0, 1), (42, .dup, 1), (43, .getfield 27, 3), (46, .iconst 1, 1), (47, .iadd, 1), (48, .putfield 27, 3), (51, .return_, 1)]
set_option maxRecDepth 100000 in
theorem sa_kv146 : ∀ q ∈ sa_k146, decode cX10_addMark q.1 = .ok q.2 ∧ sa_ln q.2.1 q.2.2 = true := by decide +kernel
set_option maxRecDepth 100000 in
def sa_k147 : List (Nat × Instr × Nat) := [(0, .aload_n 0, 1), (1, .iconst 0, 1), (2, .putfield 27, 3), (5, .return_, 1)]
set_option maxRecDepth 100000 in
theorem sa_kv147 : ∀ q ∈ sa_k147, decode cX10_dropMarks q.1 = .ok q.2 ∧ sa_ln q.2.1 q.2.2 = true := by decide +kernel
set_option maxRecDepth 100000 in
def sa_k148 : List (Nat × Instr × Nat) := [(0, .iconst 0, 1), (1, .istore 4, 2), (3, .iconst 0, 1), (4, .istore 5, 2), (6, .iload 5, 2), (8, .aload_n 0, 1), (9, .getfield 27, 3), (12, .if_icmp .ge 91, 3), (15, .aload_n 0, 1), (16, .getfield 24, 3), (19, .iload 5, 2), (21, .iaload, 1), (22, .iconst 1, 1), (23, .iand, 1), (24, .iload_n 3, 1), (25, .ifCond .eq 7, 3), (28, .iconst 1, 1), (29, .goto 4, 3), (32, .iconst 0, 1), (33, .if_icmp .ne 7, 3), (36, .iconst 1, 1), (37, .goto 4, 3), (40, .iconst 0, 1), (41, .istore 6, 2), (43, .iload 6, 2), (45, .ifCond .eq 52, 3), (48, .aload_n 0, 1), (49, .getfield 24, 3), (52, .iload 5, 2), (54, .iaload, 1), (55, .bipush 8, 2), (57, .ishr, 1), (58, .iload_n 1, 1), (59, .if_icmp .ne 38, 3), (62, .aload_n 0, 1), (63, .getfield 24, 3), (66, .iload 5, 2), (68, .iaload, 1), (69, .iconst 5, 1), (70, .ishr, 1), (71, .bipush 7, 2), (73, .iand, 1), (74, .iload_n 2, 1), (75, .if_icmp .ne 22, 3), (78, .iload 4, 2), (80, .iconst 1, 1), (81, .aload_n 0, 1), (82, .getfield 24, 3), (85, .iload 5, 2), (87, .iaload, 1), (88, .iconst 1, 1), (89, .ishr, 1), (90, .bipush 7, 2), (92, .iand, 1), (93, .ishl, 1), (94, .ior, 1), (95, .istore 4, 2), (97, .iinc 5 1, 3), (100, .goto (-94), 3), (103, .iload 4, 2), (105, .ireturn, 1)]
set_option maxRecDepth 100000 in
theorem sa_kv148 : ∀ q ∈ sa_k148, decode cX10_markedBeliefs q.1 = .ok q.2 ∧ sa_ln q.2.1 q.2.2 = true := by decide +kernel
set_option maxRecDepth 100000 in
def sa_k149 : List (Nat × Instr × Nat) := [(0, .aload_n 0, 1), (1, .invokespecial 1, 3), (4, .aload_n 0, 1), (5, .sipush 700, 3), (8, .newarray .byte, 2), (10, .putfield 9, 3), (13, .aload_n 0, 1), (14, .iconst 0, 1), (15, .putfield 13, 3), (18, .aload_n 0, 1), (19, .iconst (-1), 1), (20, .putfield 17, 3), (23, .aload_n 0, 1), (24, .iconst 3, 1), (25, .newarray .int, 2), (27, .putfield 20, 3), (30, .aload_n 0, 1), (31, .new 24, 3), (34, .dup, 1), (35, .invokespecial 26, 3), (38, .putfield 27, 3), (41, .aload_n 0, 1), (42, .new 24, 3), (45, .dup, 1), (46, .invokespecial 26, 3), (49, .putfield 31, 3), (52, .aload_n 0, 1), (53, .new 34, 3), (56, .dup, 1), (57, .aload_n 0, 1), (58, .getfield 9, 3), (61, .aload_n 0, 1), (62, .getfield 31, 3), (65, .invokespecial 36, 3), (68, .putfield 39, 3), (71, .aload_n 0, 1), (72, .new 43, 3), (75, .dup, 1), (76, .aload_n 0, 1), (77, .getfield 27, 3), (80, .invokespecial 45, 3), (83, .putfield 48, 3), (86, .aload_n 0, 1), (87, .new 43, 3), (90, .dup, 1), (91, .aload_n 0, 1), (92, .getfield 27, 3), (95, .invokespecial 45, 3), (98, .putfield 52, 3), (101, .aload_n 0, 1), (102, .iconst 0, 1), (103, .putfield 55, 3), (106, .aload_n 0, 1), (107, .new 59, 3), (110, .dup, 1), (111, .aload_n 0, 1), (112, .getfield 27, 3), (115, .invokespecial 61, 3), (118, .putfield 62, 3), (121, .aload_n 0, 1), (122, .new 66, 3), (125, .dup, 1), (126, .aload_n 0, 1), (127, .getfield 27, 3), (130, .aload_n 0, 1), (131, .getfield 48, 3), (134, .getfield 68, 3), (137, .aload_n 0, 1), (138, .getfield 62, 3), (141, .invokespecial 72, 3), (144, .putfield 75, 3), (147, .aload_n 0, 1), (148, .new 79, 3), (151, .dup, 1), (152, .aload_n 0, 1), (153, .getfield 27, 3), (156, .aload_n 0, 1), (157, .getfield 48, 3), (160, .invokespecial 81, 3), (163, .putfield 84, 3), (166, .aload_n 0, 1), (167, .new 88, 3), (170, .dup, 1), (171, .aload_n 0, 1), (172, .getfield 27, 3), (175, .aload_n 0, 1), (176, .getfield 48, 3), (179, .getfield 68, 3), (182, .invokespecial 90, 3), (185, .putfield 93, 3), (188, .return_, 1)]
set_option maxRecDepth 100000 in
theorem sa_kv149 : ∀ q ∈ sa_k149, decode cX11_init q.1 = .ok q.2 ∧ sa_ln q.2.1 q.2.2 = true := by decide +kernel
set_option maxRecDepth 100000 in
def sa_k150 : List (Nat × Instr × Nat) := [(0, .aload_n 0, 1), (1, .getfield 13, 3), (4, .bipush 20, 2), (6, .iadd, 1), (7, .sipush 700, 3), (10, .if_icmp .le 5, 3), (13, .iconst (-1), 1), (14, .ireturn, 1), (15, .aload_n 0, 1), (16, .iload_n 1, 1), (17, .invokevirtual 97, 3), (20, .aload_n 0, 1), (21, .iload_n 2, 1), (22, .invokevirtual 97, 3), (25, .aload_n 0, 1), (26, .iload_n 3, 1), (27, .invokevirtual 97, 3), (30, .aload_n 0, 1), (31, .iload 4, 2), (33, .invokevirtual 97, 3), (36, .aload_n 0, 1), (37, .iload 5, 2), (39, .invokevirtual 97, 3), (42, .aload_n 0, 1), (43, .getfield 13, 3), (46, .ireturn, 1)]
set_option maxRecDepth 100000 in
theorem sa_kv150 : ∀ q ∈ sa_k150, decode cX11_feed q.1 = .ok q.2 ∧ sa_ln q.2.1 q.2.2 = true := by decide +kernel
set_option maxRecDepth 100000 in
def sa_k151 : List (Nat × Instr × Nat) := [(0, .bipush 24, 2), (2, .istore_n 2, 1), (3, .iload_n 2, 1), (4, .ifCond .lt 42, 3), (7, .aload_n 0, 1), (8, .getfield 13, 3), (11, .sipush 700, 3), (14, .if_icmp .ge 32, 3), (17, .aload_n 0, 1), (18, .getfield 9, 3), (21, .aload_n 0, 1), (22, .getfield 13, 3), (25, .iload_n 1, 1), (26, .iload_n 2, 1), (27, .ishr, 1), (28, .i2b, 1), (29, .bastore, 1), (30, .aload_n 0, 1), (31, .dup, 1), (32, .getfield 13, 3), (35, .iconst 1, 1), (36, .iadd, 1), (37, .putfield 13, 3), (40, .iinc 2 (-8), 3), (43, .goto (-40), 3), (46, .return_, 1)]
set_option maxRecDepth 100000 in
theorem sa_kv151 : ∀ q ∈ sa_k151, decode cX11_putBytes q.1 = .ok q.2 ∧ sa_ln q.2.1 q.2.2 = true := by decide +kernel
set_option maxRecDepth 100000 in
def sa_k152 : List (Nat × Instr × Nat) := [(0, .iload_n 1, 1), (1, .ifCond .lt 11, 3), (4, .iload_n 1, 1), (5, .aload_n 0, 1), (6, .getfield 13, 3), (9, .if_icmp .le 11, 3), (12, .new 101, 3), (15, .dup, 1), (16, .invokespecial 103, 3), (19, .athrow, 1), (20, .aload_n 0, 1), (21, .iconst 0, 1), (22, .putfield 13, 3), (25, .aload_n 0, 1), (26, .getfield 39, 3), (29, .iload_n 1, 1), (30, .invokevirtual 104, 3), (33, .istore_n 2, 1), (34, .aload_n 0, 1), (35, .aload_n 0, 1), (36, .getfield 39, 3), (39, .invokevirtual 108, 3), (42, .putfield 17, 3), (45, .iload_n 2, 1), (46, .ifCond .eq 15, 3), (49, .aload_n 0, 1), (50, .getfield 20, 3), (53, .iconst 0, 1), (54, .dup2, 1), (55, .iaload, 1), (56, .iconst 1, 1), (57, .iadd, 1), (58, .iastore, 1), (59, .iload_n 2, 1), (60, .ireturn, 1), (61, .aload_n 0, 1), (62, .getfield 27, 3), (65, .aload_n 0, 1), (66, .getfield 31, 3), (69, .invokevirtual 111, 3), (72, .aload_n 0, 1), (73, .getfield 48, 3), (76, .invokevirtual 114, 3), (79, .aload_n 0, 1), (80, .iconst 0, 1), (81, .putfield 55, 3), (84, .iconst 0, 1), (85, .ireturn, 1)]
set_option maxRecDepth 100000 in
theorem sa_kv152 : ∀ q ∈ sa_k152, decode cX11_sky q.1 = .ok q.2 ∧ sa_ln q.2.1 q.2.2 = true := by decide +kernel
set_option maxRecDepth 100000 in
def sa_k153 : List (Nat × Instr × Nat) := [(0, .aload_n 0, 1), (1, .getfield 17, 3), (4, .ireturn, 1)]
set_option maxRecDepth 100000 in
theorem sa_kv153 : ∀ q ∈ sa_k153, decode cX11_fault q.1 = .ok q.2 ∧ sa_ln q.2.1 q.2.2 = true := by decide +kernel
end
section
set_option maxRecDepth 100000 in
def sa_k154 : List (Nat × Instr × Nat) := [(0, .iload_n 1, 1), (1, .tableswitch 249 0 16 #[83, 94, 105, 116, 127, 138, 149, 161, 173, 185, 196, 207, 215, 223, 228, 235, 242], 83), (84, .aload_n 0, 1), (85, .getfield 27, 3), (88, .getfield 117, 3), (91, .invokevirtual 121, 3), (94, .ireturn, 1), (95, .aload_n 0, 1), (96, .getfield 27, 3), (99, .getfield 126, 3), (102, .invokevirtual 121, 3), (105, .ireturn, 1), (106, .aload_n 0, 1), (107, .getfield 27, 3), (110, .getfield 129, 3), (113, .invokevirtual 121, 3), (116, .ireturn, 1), (117, .aload_n 0, 1), (118, .getfield 27, 3), (121, .getfield 132, 3), (124, .invokevirtual 121, 3), (127, .ireturn, 1), (128, .aload_n 0, 1), (129, .getfield 48, 3), (132, .getfield 68, 3), (135, .invokevirtual 135, 3), (138, .ireturn, 1), (139, .aload_n 0, 1), (140, .getfield 48, 3), (143, .getfield 68, 3), (146, .invokevirtual 140, 3), (149, .ireturn, 1), (150, .aload_n 0, 1), (151, .getfield 48, 3), (154, .getfield 68, 3), (157, .iconst 0, 1), (158, .invokevirtual 143, 3), (161, .ireturn, 1), (162, .aload_n 0, 1), (163, .getfield 48, 3), (166, .getfield 68, 3), (169, .iconst 1, 1), (170, .invokevirtual 143, 3), (173, .ireturn, 1), (174, .aload_n 0, 1), (175, .getfield 48, 3), (178, .getfield 68, 3), (181, .iconst 2, 1), (182, .invokevirtual 143, 3), (185, .ireturn, 1), (186, .aload_n 0, 1), (187, .getfield 48, 3), (190, .getfield 68, 3), (193, .invokevirtual 146, 3), (196, .ireturn, 1), (197, .aload_n 0, 1), (198, .getfield 48, 3), (201, .getfield 68, 3), (204, .invokevirtual 149, 3), (207, .ireturn, 1), (208, .aload_n 0, 1), (209, .getfield 48, 3), (212, .invokevirtual 152, 3), (215, .ireturn, 1), (216, .aload_n 0, 1), (217, .getfield 48, 3), (220, .invokevirtual 155, 3), (223, .ireturn, 1), (224, .aload_n 0, 1), (225, .getfield 13, 3), (228, .ireturn, 1), (229, .aload_n 0, 1), (230, .getfield 20, 3), (233, .iconst 0, 1), (234, .iaload, 1), (235, .ireturn, 1), (236, .aload_n 0, 1), (237, .getfield 20, 3), (240, .iconst 1, 1), (241, .iaload, 1), (242, .ireturn, 1), (243, .aload_n 0, 1), (244, .getfield 20, 3), (247, .iconst 2, 1), (248, .iaload, 1), (249, .ireturn, 1), (250, .new 158, 3), (253, .dup, 1), (254, .invokespecial 160, 3), (257, .athrow, 1)]
set_option maxRecDepth 100000 in
theorem sa_kv154 : ∀ q ∈ sa_k154, decode cX11_count q.1 = .ok q.2 ∧ sa_ln q.2.1 q.2.2 = true := by decide +kernel
set_option maxRecDepth 100000 in
def sa_k155 : List (Nat × Instr × Nat) := [(0, .aload_n 0, 1), (1, .iload_n 1, 1), (2, .invokevirtual 161, 3), (5, .iload_n 2, 1), (6, .tableswitch 164 0 7 #[46, 59, 71, 83, 96, 109, 121, 133], 46), (52, .aload_n 0, 1), (53, .getfield 27, 3), (56, .getfield 117, 3), (59, .iload_n 1, 1), (60, .iconst 0, 1), (61, .invokevirtual 164, 3), (64, .ireturn, 1), (65, .aload_n 0, 1), (66, .getfield 48, 3), (69, .getfield 68, 3), (72, .iload_n 1, 1), (73, .invokevirtual 168, 3), (76, .ireturn, 1), (77, .aload_n 0, 1), (78, .getfield 48, 3), (81, .getfield 68, 3), (84, .iload_n 1, 1), (85, .invokevirtual 171, 3), (88, .ireturn, 1), (89, .aload_n 0, 1), (90, .getfield 27, 3), (93, .getfield 117, 3), (96, .iload_n 1, 1), (97, .iconst 3, 1), (98, .invokevirtual 164, 3), (101, .ireturn, 1), (102, .aload_n 0, 1), (103, .getfield 27, 3), (106, .getfield 117, 3), (109, .iload_n 1, 1), (110, .iconst 4, 1), (111, .invokevirtual 164, 3), (114, .ireturn, 1), (115, .aload_n 0, 1), (116, .getfield 48, 3), (119, .getfield 68, 3), (122, .iload_n 1, 1), (123, .invokevirtual 174, 3), (126, .ireturn, 1), (127, .aload_n 0, 1), (128, .getfield 48, 3), (131, .getfield 68, 3), (134, .iload_n 1, 1), (135, .invokevirtual 177, 3), (138, .ireturn, 1), (139, .aload_n 0, 1), (140, .iload_n 1, 1), (141, .invokevirtual 180, 3), (144, .ifCond .eq 24, 3), (147, .aload_n 0, 1), (148, .getfield 27, 3), (151, .aload_n 0, 1), (152, .getfield 48, 3), (155, .getfield 68, 3), (158, .iload_n 1, 1), (159, .invokevirtual 168, 3), (162, .invokevirtual 184, 3), (165, .goto 4, 3), (168, .iconst 0, 1), (169, .ireturn, 1), (170, .new 158, 3), (173, .dup, 1), (174, .invokespecial 160, 3), (177, .athrow, 1)]
set_option maxRecDepth 100000 in
theorem sa_kv155 : ∀ q ∈ sa_k155, decode cX11_creature q.1 = .ok q.2 ∧ sa_ln q.2.1 q.2.2 = true := by decide +kernel
set_option maxRecDepth 100000 in
def sa_k156 : List (Nat × Instr × Nat) := [(0, .aload_n 0, 1), (1, .iload_n 1, 1), (2, .invokevirtual 187, 3), (5, .iload_n 2, 1), (6, .ifCond .lt 8, 3), (9, .iload_n 2, 1), (10, .iconst 5, 1), (11, .if_icmp .le 11, 3), (14, .new 158, 3), (17, .dup, 1), (18, .invokespecial 160, 3), (21, .athrow, 1), (22, .aload_n 0, 1), (23, .getfield 27, 3), (26, .getfield 126, 3), (29, .iload_n 1, 1), (30, .iload_n 2, 1), (31, .invokevirtual 164, 3), (34, .ireturn, 1)]
set_option maxRecDepth 100000 in
theorem sa_kv156 : ∀ q ∈ sa_k156, decode cX11_trick q.1 = .ok q.2 ∧ sa_ln q.2.1 q.2.2 = true := by decide +kernel
set_option maxRecDepth 100000 in
def sa_k157 : List (Nat × Instr × Nat) := [(0, .aload_n 0, 1), (1, .iload_n 1, 1), (2, .invokevirtual 161, 3), (5, .aload_n 0, 1), (6, .iload_n 2, 1), (7, .invokevirtual 187, 3), (10, .aload_n 0, 1), (11, .getfield 48, 3), (14, .getfield 68, 3), (17, .iload_n 1, 1), (18, .iload_n 2, 1), (19, .invokevirtual 190, 3), (22, .ifCond .ne 8, 3), (25, .aload_n 0, 1), (26, .invokevirtual 194, 3), (29, .ireturn, 1), (30, .aload_n 0, 1), (31, .getfield 48, 3), (34, .invokevirtual 197, 3), (37, .aload_n 0, 1), (38, .getfield 48, 3), (41, .getfield 68, 3), (44, .iload_n 1, 1), (45, .iload_n 2, 1), (46, .invokevirtual 200, 3), (49, .ireturn, 1)]
set_option maxRecDepth 100000 in
theorem sa_kv157 : ∀ q ∈ sa_k157, decode cX11_attempt q.1 = .ok q.2 ∧ sa_ln q.2.1 q.2.2 = true := by decide +kernel
set_option maxRecDepth 100000 in
def sa_k158 : List (Nat × Instr × Nat) := [(0, .iload_n 1, 1), (1, .iconst 1, 1), (2, .if_icmp .lt 27, 3), (5, .iload_n 1, 1), (6, .bipush 20, 2), (8, .if_icmp .gt 21, 3), (11, .aload_n 0, 1), (12, .getfield 48, 3), (15, .getfield 68, 3), (18, .invokevirtual 140, 3), (21, .iload_n 1, 1), (22, .iadd, 1), (23, .sipush 999, 3), (26, .if_icmp .le 8, 3), (29, .aload_n 0, 1), (30, .invokevirtual 194, 3), (33, .ireturn, 1), (34, .aload_n 0, 1), (35, .getfield 48, 3), (38, .invokevirtual 197, 3), (41, .iconst 0, 1), (42, .istore_n 2, 1), (43, .iload_n 2, 1), (44, .iload_n 1, 1), (45, .if_icmp .ge 19, 3), (48, .aload_n 0, 1), (49, .getfield 48, 3), (52, .getfield 68, 3), (55, .invokevirtual 203, 3), (58, .iinc 2 1, 3), (61, .goto (-18), 3), (64, .aload_n 0, 1), (65, .getfield 48, 3), (68, .getfield 68, 3), (71, .invokevirtual 140, 3), (74, .ireturn, 1)]
set_option maxRecDepth 100000 in
theorem sa_kv158 : ∀ q ∈ sa_k158, decode cX11_days q.1 = .ok q.2 ∧ sa_ln q.2.1 q.2.2 = true := by decide +kernel
set_option maxRecDepth 100000 in
def sa_k159 : List (Nat × Instr × Nat) := [(0, .aload_n 0, 1), (1, .iload_n 1, 1), (2, .invokevirtual 161, 3), (5, .aload_n 0, 1), (6, .getfield 48, 3), (9, .getfield 68, 3), (12, .iload_n 1, 1), (13, .invokevirtual 177, 3), (16, .iconst 1, 1), (17, .if_icmp .ne 17, 3), (20, .aload_n 0, 1), (21, .getfield 48, 3), (24, .getfield 68, 3), (27, .invokevirtual 146, 3), (30, .iload_n 1, 1), (31, .if_icmp .ne 10, 3), (34, .aload_n 0, 1), (35, .invokevirtual 194, 3), (38, .pop, 1), (39, .iconst 0, 1), (40, .ireturn, 1), (41, .aload_n 0, 1), (42, .getfield 48, 3), (45, .invokevirtual 197, 3), (48, .aload_n 0, 1), (49, .getfield 48, 3), (52, .getfield 68, 3), (55, .iload_n 1, 1), (56, .invokevirtual 206, 3), (59, .iconst 1, 1), (60, .ireturn, 1)]
set_option maxRecDepth 100000 in
theorem sa_kv159 : ∀ q ∈ sa_k159, decode cX11_guard q.1 = .ok q.2 ∧ sa_ln q.2.1 q.2.2 = true := by decide +kernel
set_option maxRecDepth 100000 in
def sa_k160 : List (Nat × Instr × Nat) := [(0, .iload_n 1, 1), (1, .iconst 1, 1), (2, .if_icmp .lt 9, 3), (5, .iload_n 1, 1), (6, .bipush 99, 2), (8, .if_icmp .le 8, 3), (11, .aload_n 0, 1), (12, .invokevirtual 194, 3), (15, .ireturn, 1), (16, .aload_n 0, 1), (17, .getfield 48, 3), (20, .invokevirtual 197, 3), (23, .aload_n 0, 1), (24, .getfield 48, 3), (27, .getfield 68, 3), (30, .sipush 999, 3), (33, .aload_n 0, 1), (34, .getfield 48, 3), (37, .getfield 68, 3), (40, .invokevirtual 135, 3), (43, .iload_n 1, 1), (44, .iadd, 1), (45, .invokestatic 209, 3), (48, .invokevirtual 214, 3), (51, .aload_n 0, 1), (52, .getfield 48, 3), (55, .getfield 68, 3), (58, .invokevirtual 135, 3), (61, .ireturn, 1)]
set_option maxRecDepth 100000 in
theorem sa_kv160 : ∀ q ∈ sa_k160, decode cX11_give q.1 = .ok q.2 ∧ sa_ln q.2.1 q.2.2 = true := by decide +kernel
set_option maxRecDepth 100000 in
def sa_k161 : List (Nat × Instr × Nat) := [(0, .aload_n 0, 1), (1, .iload_n 1, 1), (2, .invokevirtual 161, 3), (5, .aload_n 0, 1), (6, .iload_n 2, 1), (7, .invokevirtual 217, 3), (10, .aload_n 0, 1), (11, .getfield 48, 3), (14, .getfield 68, 3), (17, .iload_n 1, 1), (18, .invokevirtual 168, 3), (21, .istore 4, 2), (23, .iload_n 3, 1), (24, .ifCond .eq 12, 3), (27, .iload 4, 2), (29, .iconst 1, 1), (30, .iload_n 2, 1), (31, .ishl, 1), (32, .ior, 1), (33, .goto 11, 3), (36, .iload 4, 2), (38, .iconst 1, 1), (39, .iload_n 2, 1), (40, .ishl, 1), (41, .iconst (-1), 1), (42, .ixor, 1), (43, .iand, 1), (44, .istore 5, 2), (46, .aload_n 0, 1), (47, .iload_n 1, 1), (48, .invokevirtual 180, 3), (51, .ifCond .eq 10, 3), (54, .iload 5, 2), (56, .iload 4, 2), (58, .if_icmp .ne 8, 3), (61, .aload_n 0, 1), (62, .invokevirtual 194, 3), (65, .ireturn, 1), (66, .aload_n 0, 1), (67, .getfield 48, 3), (70, .invokevirtual 197, 3), (73, .aload_n 0, 1), (74, .getfield 48, 3), (77, .getfield 68, 3), (80, .iload_n 1, 1), (81, .iload 5, 2), (83, .invokevirtual 220, 3), (86, .iload 5, 2), (88, .ireturn, 1)]
set_option maxRecDepth 100000 in
theorem sa_kv161 : ∀ q ∈ sa_k161, decode cX11_tell q.1 = .ok q.2 ∧ sa_ln q.2.1 q.2.2 = true := by decide +kernel
set_option maxRecDepth 100000 in
def sa_k162 : List (Nat × Instr × Nat) := [(0, .aload_n 0, 1), (1, .getfield 48, 3), (4, .invokevirtual 224, 3), (7, .ifCond .eq 13, 3), (10, .aload_n 0, 1), (11, .getfield 48, 3), (14, .invokevirtual 152, 3), (17, .goto 4, 3), (20, .iconst (-1), 1), (21, .ireturn, 1)]
set_option maxRecDepth 100000 in
theorem sa_kv162 : ∀ q ∈ sa_k162, decode cX11_undo q.1 = .ok q.2 ∧ sa_ln q.2.1 q.2.2 = true := by decide +kernel
set_option maxRecDepth 100000 in
def sa_k163 : List (Nat × Instr × Nat) := [(0, .aload_n 0, 1), (1, .iload_n 1, 1), (2, .invokevirtual 161, 3), (5, .iload_n 2, 1), (6, .iconst (-1), 1), (7, .if_icmp .ge 11, 3), (10, .new 158, 3), (13, .dup, 1), (14, .invokespecial 160, 3), (17, .athrow, 1), (18, .aload_n 0, 1), (19, .iload_n 1, 1), (20, .invokevirtual 180, 3), (23, .ifCond .eq 11, 3), (26, .aload_n 0, 1), (27, .iload_n 1, 1), (28, .invokevirtual 228, 3), (31, .goto 4, 3), (34, .iconst 0, 1), (35, .istore_n 3, 1), (36, .iload_n 3, 1), (37, .ifCond .ne 6, 3), (40, .bipush (-2), 2), (42, .ireturn, 1), (43, .iload_n 2, 1), (44, .iload_n 3, 1), (45, .if_icmp .lt 11, 3), (48, .new 158, 3), (51, .dup, 1), (52, .invokespecial 160, 3), (55, .athrow, 1), (56, .iload_n 2, 1), (57, .iconst (-1), 1), (58, .if_icmp .ne 7, 3), (61, .iload_n 3, 1), (62, .goto 12, 3), (65, .aload_n 0, 1), (66, .getfield 62, 3), (69, .iload_n 2, 1), (70, .iload_n 3, 1), (71, .invokevirtual 231, 3), (74, .ireturn, 1)]
set_option maxRecDepth 100000 in
theorem sa_kv163 : ∀ q ∈ sa_k163, decode cX11_plan q.1 = .ok q.2 ∧ sa_ln q.2.1 q.2.2 = true := by decide +kernel
set_option maxRecDepth 100000 in
def sa_k164 : List (Nat × Instr × Nat) := [(0, .aload_n 0, 1), (1, .iload_n 1, 1), (2, .invokevirtual 161, 3), (5, .aload_n 0, 1), (6, .iload_n 1, 1), (7, .invokevirtual 180, 3), (10, .ifCond .ne 5, 3), (13, .iconst (-1), 1), (14, .ireturn, 1), (15, .aload_n 0, 1), (16, .getfield 62, 3), (19, .aload_n 0, 1), (20, .getfield 48, 3), (23, .getfield 68, 3), (26, .iload_n 1, 1), (27, .aload_n 0, 1), (28, .getfield 48, 3), (31, .getfield 68, 3), (34, .invokevirtual 149, 3), (37, .invokevirtual 234, 3), (40, .aload_n 0, 1), (41, .getfield 62, 3), (44, .invokevirtual 238, 3), (47, .ireturn, 1)]
set_option maxRecDepth 100000 in
theorem sa_kv164 : ∀ q ∈ sa_k164, decode cX11_cheapest q.1 = .ok q.2 ∧ sa_ln q.2.1 q.2.2 = true := by decide +kernel
set_option maxRecDepth 100000 in
def sa_k165 : List (Nat × Instr × Nat) := [(0, .aload_n 0, 1), (1, .iload_n 1, 1), (2, .invokevirtual 161, 3), (5, .iload_n 2, 1), (6, .invokestatic 241, 3), (9, .ifCond .eq 16, 3), (12, .iload_n 3, 1), (13, .invokestatic 241, 3), (16, .ifCond .eq 9, 3), (19, .iload_n 2, 1), (20, .iload_n 3, 1), (21, .iand, 1), (22, .ifCond .eq 11, 3), (25, .new 101, 3), (28, .dup, 1), (29, .invokespecial 103, 3), (32, .athrow, 1), (33, .aload_n 0, 1), (34, .iload_n 1, 1), (35, .invokevirtual 180, 3), (38, .ifCond .ne 5, 3), (41, .iconst 0, 1), (42, .ireturn, 1), (43, .aload_n 0, 1), (44, .iload_n 1, 1), (45, .invokevirtual 244, 3), (48, .aload_n 0, 1), (49, .getfield 62, 3), (52, .invokevirtual 247, 3), (55, .iload_n 2, 1), (56, .iload_n 3, 1), (57, .invokestatic 251, 3), (60, .land, 1), (61, .lconst 0, 1), (62, .lcmp, 1), (63, .ifCond .eq 7, 3), (66, .iconst 1, 1), (67, .goto 4, 3), (70, .iconst 0, 1), (71, .ireturn, 1)]
set_option maxRecDepth 100000 in
theorem sa_kv165 : ∀ q ∈ sa_k165, decode cX11_canBelieve q.1 = .ok q.2 ∧ sa_ln q.2.1 q.2.2 = true := by decide +kernel
set_option maxRecDepth 100000 in
def sa_k166 : List (Nat × Instr × Nat) := [(0, .aload_n 0, 1), (1, .getfield 48, 3), (4, .getfield 68, 3), (7, .iconst 0, 1), (8, .invokevirtual 143, 3), (11, .istore_n 2, 1), (12, .iload_n 1, 1), (13, .iconst (-1), 1), (14, .if_icmp .lt 11, 3), (17, .iload_n 1, 1), (18, .iload_n 2, 1), (19, .invokestatic 255, 3), (22, .if_icmp .lt 11, 3), (25, .new 158, 3), (28, .dup, 1), (29, .invokespecial 160, 3), (32, .athrow, 1), (33, .aload_n 0, 1), (34, .getfield 75, 3), (37, .iload_n 2, 1), (38, .invokevirtual 260, 3), (41, .istore_n 3, 1), (42, .iload_n 3, 1), (43, .iconst (-1), 1), (44, .if_icmp .ne 6, 3), (47, .bipush (-2), 2), (49, .ireturn, 1), (50, .iload_n 1, 1), (51, .iconst (-1), 1), (52, .if_icmp .ne 7, 3), (55, .iload_n 3, 1), (56, .goto 11, 3), (59, .aload_n 0, 1), (60, .getfield 75, 3), (63, .iload_n 1, 1), (64, .invokevirtual 263, 3), (67, .ireturn, 1)]
set_option maxRecDepth 100000 in
theorem sa_kv166 : ∀ q ∈ sa_k166, decode cX11_order q.1 = .ok q.2 ∧ sa_ln q.2.1 q.2.2 = true := by decide +kernel
set_option maxRecDepth 100000 in
def sa_k167 : List (Nat × Instr × Nat) := [(0, .aload_n 0, 1), (1, .iload_n 1, 1), (2, .iconst 0, 1), (3, .invokevirtual 266, 3), (6, .aload_n 0, 1), (7, .getfield 93, 3), (10, .iload_n 1, 1), (11, .invokevirtual 269, 3), (14, .ireturn, 1)]
set_option maxRecDepth 100000 in
theorem sa_kv167 : ∀ q ∈ sa_k167, decode cX11_stolen q.1 = .ok q.2 ∧ sa_ln q.2.1 q.2.2 = true := by decide +kernel
set_option maxRecDepth 100000 in
def sa_k168 : List (Nat × Instr × Nat) := [(0, .aload_n 0, 1), (1, .iload_n 1, 1), (2, .invokevirtual 161, 3), (5, .aload_n 0, 1), (6, .iload_n 2, 1), (7, .iconst 0, 1), (8, .invokevirtual 266, 3), (11, .aload_n 0, 1), (12, .getfield 48, 3), (15, .getfield 68, 3), (18, .iload_n 1, 1), (19, .invokevirtual 174, 3), (22, .istore_n 3, 1), (23, .aload_n 0, 1), (24, .iload_n 1, 1), (25, .invokevirtual 180, 3), (28, .ifCond .eq 13, 3), (31, .iconst 0, 1), (32, .iload_n 3, 1), (33, .iload_n 2, 1), (34, .isub, 1), (35, .invokestatic 272, 3), (38, .goto 4, 3), (41, .iload_n 3, 1), (42, .ireturn, 1)]
set_option maxRecDepth 100000 in
theorem sa_kv168 : ∀ q ∈ sa_k168, decode cX11_cord q.1 = .ok q.2 ∧ sa_ln q.2.1 q.2.2 = true := by decide +kernel
set_option maxRecDepth 100000 in
def sa_k169 : List (Nat × Instr × Nat) := [(0, .aload_n 0, 1), (1, .iload_n 1, 1), (2, .invokevirtual 161, 3), (5, .aload_n 0, 1), (6, .getfield 93, 3), (9, .iload_n 1, 1), (10, .invokevirtual 275, 3), (13, .ireturn, 1)]
set_option maxRecDepth 100000 in
theorem sa_kv169 : ∀ q ∈ sa_k169, decode cX11_when q.1 = .ok q.2 ∧ sa_ln q.2.1 q.2.2 = true := by decide +kernel
set_option maxRecDepth 100000 in
def sa_k170 : List (Nat × Instr × Nat) := [(0, .aload_n 0, 1), (1, .iload_n 1, 1), (2, .iconst 1, 1), (3, .invokevirtual 266, 3), (6, .aload_n 0, 1), (7, .getfield 93, 3), (10, .iload_n 1, 1), (11, .invokevirtual 278, 3), (14, .ireturn, 1)]
set_option maxRecDepth 100000 in
theorem sa_kv170 : ∀ q ∈ sa_k170, decode cX11_toGuard q.1 = .ok q.2 ∧ sa_ln q.2.1 q.2.2 = true := by decide +kernel
set_option maxRecDepth 100000 in
def sa_k171 : List (Nat × Instr × Nat) := [(0, .aload_n 0, 1), (1, .iload_n 1, 1), (2, .invokevirtual 281, 3), (5, .iload_n 2, 1), (6, .ifCond .lt 10, 3), (9, .iload_n 2, 1), (10, .sipush 999, 3), (13, .if_icmp .le 11, 3), (16, .new 101, 3), (19, .dup, 1), (20, .invokespecial 103, 3), (23, .athrow, 1), (24, .aload_n 0, 1), (25, .getfield 27, 3), (28, .iload_n 1, 1), (29, .iload_n 2, 1), (30, .invokevirtual 284, 3), (33, .ireturn, 1)]
set_option maxRecDepth 100000 in
theorem sa_kv171 : ∀ q ∈ sa_k171, decode cX11_payers q.1 = .ok q.2 ∧ sa_ln q.2.1 q.2.2 = true := by decide +kernel
set_option maxRecDepth 100000 in
def sa_k172 : List (Nat × Instr × Nat) := [(0, .aload_n 0, 1), (1, .iload_n 1, 1), (2, .invokevirtual 281, 3), (5, .iload_n 2, 1), (6, .ifCond .lt 8, 3), (9, .iload_n 2, 1), (10, .iconst 5, 1), (11, .if_icmp .le 11, 3), (14, .new 101, 3), (17, .dup, 1), (18, .invokespecial 103, 3), (21, .athrow, 1), (22, .aload_n 0, 1), (23, .getfield 27, 3), (26, .iload_n 1, 1), (27, .iload_n 2, 1), (28, .invokevirtual 287, 3), (31, .ireturn, 1)]
set_option maxRecDepth 100000 in
theorem sa_kv172 : ∀ q ∈ sa_k172, decode cX11_few q.1 = .ok q.2 ∧ sa_ln q.2.1 q.2.2 = true := by decide +kernel
set_option maxRecDepth 100000 in
def sa_k173 : List (Nat × Instr × Nat) := [(0, .aload_n 0, 1), (1, .getfield 27, 3), (4, .invokevirtual 290, 3), (7, .ireturn, 1)]
set_option maxRecDepth 100000 in
theorem sa_kv173 : ∀ q ∈ sa_k173, decode cX11_tellers q.1 = .ok q.2 ∧ sa_ln q.2.1 q.2.2 = true := by decide +kernel
set_option maxRecDepth 100000 in
def sa_k174 : List (Nat × Instr × Nat) := [(0, .aload_n 0, 1), (1, .iload_n 1, 1), (2, .invokevirtual 293, 3), (5, .aload_n 0, 1), (6, .iload_n 2, 1), (7, .iconst 1, 1), (8, .invokevirtual 296, 3), (11, .aload_n 0, 1), (12, .getfield 27, 3), (15, .iload_n 1, 1), (16, .invokevirtual 299, 3), (19, .istore_n 3, 1), (20, .iload_n 2, 1), (21, .iconst 1, 1), (22, .if_icmp .ne 5, 3), (25, .iload_n 3, 1), (26, .ireturn, 1), (27, .iload_n 3, 1), (28, .iconst (-1), 1), (29, .if_icmp .ne 7, 3), (32, .iconst 0, 1), (33, .goto 12, 3), (36, .aload_n 0, 1), (37, .getfield 27, 3), (40, .iload_n 1, 1), (41, .iload_n 3, 1), (42, .invokevirtual 302, 3), (45, .ireturn, 1)]
set_option maxRecDepth 100000 in
theorem sa_kv174 : ∀ q ∈ sa_k174, decode cX11_borrowed q.1 = .ok q.2 ∧ sa_ln q.2.1 q.2.2 = true := by decide +kernel
set_option maxRecDepth 100000 in
def sa_k175 : List (Nat × Instr × Nat) := [(0, .aload_n 0, 1), (1, .iload_n 1, 1), (2, .invokevirtual 161, 3), (5, .aload_n 0, 1), (6, .iload_n 3, 1), (7, .invokevirtual 217, 3), (10, .iload_n 2, 1), (11, .iconst 1, 1), (12, .if_icmp .lt 20, 3), (15, .iload_n 2, 1), (16, .iconst 4, 1), (17, .if_icmp .gt 15, 3), (20, .aload_n 0, 1), (21, .getfield 48, 3), (24, .invokevirtual 155, 3), (27, .bipush 8, 2), (29, .if_icmp .lt 15, 3), (32, .aload_n 0, 1), (33, .getfield 20, 3), (36, .iconst 2, 1), (37, .dup2, 1), (38, .iaload, 1), (39, .iconst 1, 1), (40, .iadd, 1), (41, .iastore, 1), (42, .iconst (-1), 1), (43, .ireturn, 1), (44, .aload_n 0, 1), (45, .getfield 48, 3), (48, .iload_n 1, 1), (49, .iload_n 2, 1), (50, .iload_n 3, 1), (51, .iload 4, 2), (53, .invokevirtual 305, 3), (56, .aload_n 0, 1), (57, .getfield 48, 3), (60, .invokevirtual 155, 3), (63, .ireturn, 1)]
set_option maxRecDepth 100000 in
theorem sa_kv175 : ∀ q ∈ sa_k175, decode cX11_mark q.1 = .ok q.2 ∧ sa_ln q.2.1 q.2.2 = true := by decide +kernel
set_option maxRecDepth 100000 in
def sa_k176 : List (Nat × Instr × Nat) := [(0, .aload_n 0, 1), (1, .getfield 48, 3), (4, .invokevirtual 309, 3), (7, .return_, 1)]
set_option maxRecDepth 100000 in
theorem sa_kv176 : ∀ q ∈ sa_k176, decode cX11_forget q.1 = .ok q.2 ∧ sa_ln q.2.1 q.2.2 = true := by decide +kernel
set_option maxRecDepth 100000 in
def sa_k177 : List (Nat × Instr × Nat) := [(0, .aload_n 0, 1), (1, .iload_n 1, 1), (2, .invokevirtual 161, 3), (5, .aload_n 0, 1), (6, .iload_n 3, 1), (7, .iconst 1, 1), (8, .invokevirtual 296, 3), (11, .aload_n 0, 1), (12, .iload_n 2, 1), (13, .invokevirtual 312, 3), (16, .aload_n 0, 1), (17, .getfield 84, 3), (20, .iload_n 1, 1), (21, .iload_n 2, 1), (22, .invokevirtual 315, 3), (25, .iload_n 3, 1), (26, .ifCond .ne 13, 3), (29, .aload_n 0, 1), (30, .getfield 84, 3), (33, .invokevirtual 317, 3), (36, .goto 10, 3), (39, .aload_n 0, 1), (40, .getfield 84, 3), (43, .invokevirtual 320, 3), (46, .ireturn, 1)]
set_option maxRecDepth 100000 in
theorem sa_kv177 : ∀ q ∈ sa_k177, decode cX11_how q.1 = .ok q.2 ∧ sa_ln q.2.1 q.2.2 = true := by decide +kernel
set_option maxRecDepth 100000 in
def sa_k178 : List (Nat × Instr × Nat) := [(0, .aload_n 0, 1), (1, .iload_n 1, 1), (2, .invokevirtual 161, 3), (5, .aload_n 0, 1), (6, .iload_n 3, 1), (7, .iconst 1, 1), (8, .invokevirtual 296, 3), (11, .aload_n 0, 1), (12, .iload_n 2, 1), (13, .invokevirtual 312, 3), (16, .aload_n 0, 1), (17, .getfield 84, 3), (20, .iload_n 1, 1), (21, .iload_n 2, 1), (22, .invokevirtual 315, 3), (25, .aload_n 0, 1), (26, .getfield 84, 3), (29, .invokevirtual 323, 3), (32, .istore 4, 2), (34, .iload_n 3, 1), (35, .ifCond .ne 6, 3), (38, .iload 4, 2), (40, .ireturn, 1), (41, .iload 4, 2), (43, .iconst (-1), 1), (44, .if_icmp .ne 7, 3), (47, .iconst 0, 1), (48, .goto 12, 3), (51, .aload_n 0, 1), (52, .getfield 84, 3), (55, .iload 4, 2), (57, .invokevirtual 326, 3), (60, .ireturn, 1)]
set_option maxRecDepth 100000 in
theorem sa_kv178 : ∀ q ∈ sa_k178, decode cX11_next q.1 = .ok q.2 ∧ sa_ln q.2.1 q.2.2 = true := by decide +kernel
set_option maxRecDepth 100000 in
def sa_k179 : List (Nat × Instr × Nat) := [(0, .aload_n 0, 1), (1, .iload_n 1, 1), (2, .invokevirtual 329, 3), (5, .aload_n 0, 1), (6, .iload_n 2, 1), (7, .invokevirtual 329, 3), (10, .aload_n 0, 1), (11, .iload_n 3, 1), (12, .invokevirtual 161, 3), (15, .aload_n 0, 1), (16, .iload 4, 2), (18, .iconst 1, 1), (19, .invokevirtual 296, 3), (22, .iload_n 1, 1), (23, .iload_n 2, 1), (24, .if_icmp .ne 11, 3), (27, .new 101, 3), (30, .dup, 1), (31, .invokespecial 103, 3), (34, .athrow, 1), (35, .iload 4, 2), (37, .ifCond .ne 16, 3), (40, .aload_n 0, 1), (41, .getfield 27, 3), (44, .iload_n 1, 1), (45, .iload_n 2, 1), (46, .iload_n 3, 1), (47, .invokevirtual 332, 3), (50, .goto 13, 3), (53, .aload_n 0, 1), (54, .getfield 27, 3), (57, .iload_n 1, 1), (58, .iload_n 2, 1), (59, .iload_n 3, 1), (60, .invokevirtual 336, 3), (63, .ireturn, 1)]
set_option maxRecDepth 100000 in
theorem sa_kv179 : ∀ q ∈ sa_k179, decode cX11_game q.1 = .ok q.2 ∧ sa_ln q.2.1 q.2.2 = true := by decide +kernel
set_option maxRecDepth 100000 in
def sa_k180 : List (Nat × Instr × Nat) := [(0, .aload_n 0, 1), (1, .iload_n 3, 1), (2, .iconst 2, 1), (3, .invokevirtual 296, 3), (6, .iload_n 2, 1), (7, .ifCond .lt 9, 3), (10, .iload_n 2, 1), (11, .bipush 30, 2), (13, .if_icmp .le 11, 3), (16, .new 101, 3), (19, .dup, 1), (20, .invokespecial 103, 3), (23, .athrow, 1), (24, .aload_n 0, 1), (25, .getfield 93, 3), (28, .iload_n 1, 1), (29, .iload_n 2, 1), (30, .iload_n 3, 1), (31, .invokevirtual 339, 3), (34, .ireturn, 1)]
set_option maxRecDepth 100000 in
theorem sa_kv180 : ∀ q ∈ sa_k180, decode cX11_spiders q.1 = .ok q.2 ∧ sa_ln q.2.1 q.2.2 = true := by decide +kernel
set_option maxRecDepth 100000 in
def sa_k181 : List (Nat × Instr × Nat) := [(0, .aload_n 0, 1), (1, .iload_n 1, 1), (2, .invokevirtual 187, 3), (5, .iconst 0, 1), (6, .istore_n 2, 1), (7, .iconst 0, 1), (8, .istore_n 3, 1), (9, .iload_n 3, 1), (10, .aload_n 0, 1), (11, .getfield 27, 3), (14, .getfield 117, 3), (17, .invokevirtual 121, 3), (20, .if_icmp .ge 45, 3), (23, .aload_n 0, 1), (24, .iload_n 3, 1), (25, .invokevirtual 180, 3), (28, .ifCond .eq 31, 3), (31, .aload_n 0, 1), (32, .getfield 27, 3), (35, .iload_n 1, 1), (36, .aload_n 0, 1), (37, .getfield 48, 3), (40, .getfield 68, 3), (43, .iload_n 3, 1), (44, .invokevirtual 168, 3), (47, .invokevirtual 342, 3), (50, .ifCond .eq 9, 3), (53, .iload_n 2, 1), (54, .iconst 1, 1), (55, .iload_n 3, 1), (56, .ishl, 1), (57, .ior, 1), (58, .istore_n 2, 1), (59, .iinc 3 1, 3), (62, .goto (-53), 3), (65, .iload_n 2, 1), (66, .ireturn, 1)]
set_option maxRecDepth 100000 in
theorem sa_kv181 : ∀ q ∈ sa_k181, decode cX11_fooled q.1 = .ok q.2 ∧ sa_ln q.2.1 q.2.2 = true := by decide +kernel
set_option maxRecDepth 100000 in
def sa_k182 : List (Nat × Instr × Nat) := [(0, .aload_n 0, 1), (1, .iload_n 1, 1), (2, .invokevirtual 161, 3), (5, .aload_n 0, 1), (6, .iload_n 2, 1), (7, .invokevirtual 187, 3), (10, .aload_n 0, 1), (11, .getfield 48, 3), (14, .getfield 68, 3), (17, .iload_n 1, 1), (18, .invokevirtual 168, 3), (21, .istore_n 3, 1), (22, .aload_n 0, 1), (23, .getfield 27, 3), (26, .getfield 126, 3), (29, .iload_n 2, 1), (30, .iconst 0, 1), (31, .invokevirtual 164, 3), (34, .iload_n 3, 1), (35, .iconst (-1), 1), (36, .ixor, 1), (37, .iand, 1), (38, .istore 4, 2), (40, .aload_n 0, 1), (41, .getfield 27, 3), (44, .getfield 126, 3), (47, .iload_n 2, 1), (48, .iconst 1, 1), (49, .invokevirtual 164, 3), (52, .iload_n 3, 1), (53, .iand, 1), (54, .istore 5, 2), (56, .iload 4, 2), (58, .iload 5, 2), (60, .bipush 6, 2), (62, .ishl, 1), (63, .ior, 1), (64, .ireturn, 1)]
set_option maxRecDepth 100000 in
theorem sa_kv182 : ∀ q ∈ sa_k182, decode cX11_lacking q.1 = .ok q.2 ∧ sa_ln q.2.1 q.2.2 = true := by decide +kernel
set_option maxRecDepth 100000 in
def sa_k183 : List (Nat × Instr × Nat) := [(0, .iconst 0, 1), (1, .istore_n 1, 1), (2, .iconst 0, 1), (3, .istore_n 2, 1), (4, .iload_n 2, 1), (5, .aload_n 0, 1), (6, .getfield 27, 3), (9, .getfield 117, 3), (12, .invokevirtual 121, 3), (15, .if_icmp .ge 32, 3), (18, .aload_n 0, 1), (19, .iload_n 2, 1), (20, .invokevirtual 180, 3), (23, .ifCond .eq 18, 3), (26, .aload_n 0, 1), (27, .iload_n 2, 1), (28, .invokevirtual 244, 3), (31, .iload_n 1, 1), (32, .aload_n 0, 1), (33, .getfield 62, 3), (36, .invokevirtual 345, 3), (39, .ior, 1), (40, .istore_n 1, 1), (41, .iinc 2 1, 3), (44, .goto (-40), 3), (47, .aload_n 0, 1), (48, .getfield 27, 3), (51, .getfield 126, 3), (54, .invokevirtual 348, 3), (57, .iload_n 1, 1), (58, .iconst (-1), 1), (59, .ixor, 1), (60, .iand, 1), (61, .ireturn, 1)]
set_option maxRecDepth 100000 in
theorem sa_kv183 : ∀ q ∈ sa_k183, decode cX11_useless q.1 = .ok q.2 ∧ sa_ln q.2.1 q.2.2 = true := by decide +kernel
set_option maxRecDepth 100000 in
def sa_k184 : List (Nat × Instr × Nat) := [(0, .aload_n 0, 1), (1, .iload_n 1, 1), (2, .invokevirtual 161, 3), (5, .aload_n 0, 1), (6, .iload_n 1, 1), (7, .invokevirtual 180, 3), (10, .ifCond .ne 5, 3), (13, .iconst (-1), 1), (14, .ireturn, 1), (15, .aload_n 0, 1), (16, .iload_n 1, 1), (17, .invokevirtual 244, 3), (20, .iconst 0, 1), (21, .istore_n 2, 1), (22, .iconst 0, 1), (23, .istore_n 3, 1), (24, .iload_n 3, 1), (25, .bipush 6, 2), (27, .if_icmp .ge 64, 3), (30, .aload_n 0, 1), (31, .getfield 62, 3), (34, .invokevirtual 247, 3), (37, .iconst 1, 1), (38, .iload_n 3, 1), (39, .ishl, 1), (40, .iconst 0, 1), (41, .invokestatic 251, 3), (44, .land, 1), (45, .lconst 0, 1), (46, .lcmp, 1), (47, .ifCond .ne 9, 3), (50, .iload_n 2, 1), (51, .iconst 1, 1), (52, .iload_n 3, 1), (53, .ishl, 1), (54, .ior, 1), (55, .istore_n 2, 1), (56, .aload_n 0, 1), (57, .getfield 62, 3), (60, .invokevirtual 247, 3), (63, .iconst 0, 1), (64, .iconst 1, 1), (65, .iload_n 3, 1), (66, .ishl, 1), (67, .invokestatic 251, 3), (70, .land, 1), (71, .lconst 0, 1), (72, .lcmp, 1), (73, .ifCond .ne 12, 3), (76, .iload_n 2, 1), (77, .iconst 1, 1), (78, .bipush 6, 2), (80, .iload_n 3, 1), (81, .iadd, 1), (82, .ishl, 1), (83, .ior, 1), (84, .istore_n 2, 1), (85, .iinc 3 1, 3), (88, .goto (-64), 3), (91, .iload_n 2, 1), (92, .ireturn, 1)]
set_option maxRecDepth 100000 in
theorem sa_kv184 : ∀ q ∈ sa_k184, decode cX11_firm q.1 = .ok q.2 ∧ sa_ln q.2.1 q.2.2 = true := by decide +kernel
set_option maxRecDepth 100000 in
def sa_k185 : List (Nat × Instr × Nat) := [(0, .aload_n 0, 1), (1, .iload_n 1, 1), (2, .iconst 0, 1), (3, .invokevirtual 266, 3), (6, .aload_n 0, 1), (7, .getfield 27, 3), (10, .aload_n 0, 1), (11, .getfield 93, 3), (14, .iload_n 1, 1), (15, .invokevirtual 269, 3), (18, .invokevirtual 351, 3), (21, .ireturn, 1)]
set_option maxRecDepth 100000 in
theorem sa_kv185 : ∀ q ∈ sa_k185, decode cX11_loot q.1 = .ok q.2 ∧ sa_ln q.2.1 q.2.2 = true := by decide +kernel
set_option maxRecDepth 100000 in
def sa_k186 : List (Nat × Instr × Nat) := [(0, .aload_n 0, 1), (1, .iload_n 2, 1), (2, .iconst 1, 1), (3, .invokevirtual 296, 3), (6, .aload_n 0, 1), (7, .iload_n 1, 1), (8, .invokevirtual 281, 3), (11, .aload_n 0, 1), (12, .getfield 27, 3), (15, .iload_n 1, 1), (16, .invokevirtual 354, 3), (19, .istore_n 3, 1), (20, .iload_n 3, 1), (21, .iconst (-1), 1), (22, .if_icmp .eq 8, 3), (25, .iload_n 2, 1), (26, .iconst 1, 1), (27, .if_icmp .ne 5, 3), (30, .iload_n 3, 1), (31, .ireturn, 1), (32, .aload_n 0, 1), (33, .getfield 27, 3), (36, .getfield 129, 3), (39, .iload_n 3, 1), (40, .iconst 1, 1), (41, .invokevirtual 164, 3), (44, .ireturn, 1)]
set_option maxRecDepth 100000 in
theorem sa_kv186 : ∀ q ∈ sa_k186, decode cX11_offer q.1 = .ok q.2 ∧ sa_ln q.2.1 q.2.2 = true := by decide +kernel
set_option maxRecDepth 100000 in
def sa_k187 : List (Nat × Instr × Nat) := [(0, .aload_n 0, 1), (1, .iload_n 1, 1), (2, .invokevirtual 293, 3), (5, .aload_n 0, 1), (6, .getfield 27, 3), (9, .iload_n 1, 1), (10, .invokevirtual 357, 3), (13, .ireturn, 1)]
set_option maxRecDepth 100000 in
theorem sa_kv187 : ∀ q ∈ sa_k187, decode cX11_alone q.1 = .ok q.2 ∧ sa_ln q.2.1 q.2.2 = true := by decide +kernel
set_option maxRecDepth 100000 in
def sa_k188 : List (Nat × Instr × Nat) := [(0, .aload_n 0, 1), (1, .getfield 27, 3), (4, .invokevirtual 360, 3), (7, .ireturn, 1)]
set_option maxRecDepth 100000 in
theorem sa_kv188 : ∀ q ∈ sa_k188, decode cX11_like q.1 = .ok q.2 ∧ sa_ln q.2.1 q.2.2 = true := by decide +kernel
set_option maxRecDepth 100000 in
def sa_k189 : List (Nat × Instr × Nat) := [(0, .iconst (-1), 1), (1, .istore_n 1, 1), (2, .iconst 0, 1), (3, .istore_n 2, 1), (4, .iconst 0, 1), (5, .istore_n 3, 1), (6, .iload_n 3, 1), (7, .aload_n 0, 1), (8, .getfield 27, 3), (11, .getfield 117, 3), (14, .invokevirtual 121, 3), (17, .if_icmp .ge 49, 3), (20, .aload_n 0, 1), (21, .iload_n 3, 1), (22, .invokevirtual 180, 3), (25, .ifCond .eq 11, 3), (28, .aload_n 0, 1), (29, .iload_n 3, 1), (30, .invokevirtual 228, 3), (33, .goto 4, 3), (36, .iconst 0, 1), (37, .istore 4, 2), (39, .iload 4, 2), (41, .ifCond .le 19, 3), (44, .iload_n 1, 1), (45, .iconst (-1), 1), (46, .if_icmp .eq 9, 3), (49, .iload 4, 2), (51, .iload_n 2, 1), (52, .if_icmp .ge 8, 3), (55, .iload_n 3, 1), (56, .istore_n 1, 1), (57, .iload 4, 2), (59, .istore_n 2, 1), (60, .iinc 3 1, 3), (63, .goto (-57), 3), (66, .iload_n 1, 1), (67, .ireturn, 1)]
set_option maxRecDepth 100000 in
theorem sa_kv189 : ∀ q ∈ sa_k189, decode cX11_nearest q.1 = .ok q.2 ∧ sa_ln q.2.1 q.2.2 = true := by decide +kernel
set_option maxRecDepth 100000 in
def sa_k190 : List (Nat × Instr × Nat) := [(0, .aload_n 0, 1), (1, .getfield 52, 3), (4, .aload_n 0, 1), (5, .getfield 48, 3), (8, .invokevirtual 363, 3), (11, .aload_n 0, 1), (12, .iconst 1, 1), (13, .putfield 55, 3), (16, .return_, 1)]
set_option maxRecDepth 100000 in
theorem sa_kv190 : ∀ q ∈ sa_k190, decode cX11_image q.1 = .ok q.2 ∧ sa_ln q.2.1 q.2.2 = true := by decide +kernel
set_option maxRecDepth 100000 in
def sa_k191 : List (Nat × Instr × Nat) := [(0, .aload_n 0, 1), (1, .getfield 55, 3), (4, .ifCond .eq 14, 3), (7, .aload_n 0, 1), (8, .getfield 48, 3), (11, .aload_n 0, 1), (12, .getfield 52, 3), (15, .invokevirtual 363, 3), (18, .aload_n 0, 1), (19, .getfield 55, 3), (22, .ireturn, 1)]
set_option maxRecDepth 100000 in
theorem sa_kv191 : ∀ q ∈ sa_k191, decode cX11_restore q.1 = .ok q.2 ∧ sa_ln q.2.1 q.2.2 = true := by decide +kernel
set_option maxRecDepth 100000 in
def sa_k192 : List (Nat × Instr × Nat) := [(0, .aload_n 0, 1), (1, .getfield 48, 3), (4, .getfield 68, 3), (7, .iload_n 1, 1), (8, .invokevirtual 177, 3), (11, .ifCond .ne 7, 3), (14, .iconst 1, 1), (15, .goto 4, 3), (18, .iconst 0, 1), (19, .ireturn, 1)]
set_option maxRecDepth 100000 in
theorem sa_kv192 : ∀ q ∈ sa_k192, decode cX11_isFree q.1 = .ok q.2 ∧ sa_ln q.2.1 q.2.2 = true := by decide +kernel
set_option maxRecDepth 100000 in
def sa_k193 : List (Nat × Instr × Nat) := [(0, .aload_n 0, 1), (1, .getfield 20, 3), (4, .iconst 1, 1), (5, .dup2, 1), (6, .iaload, 1), (7, .iconst 1, 1), (8, .iadd, 1), (9, .iastore, 1), (10, .iconst (-1), 1), (11, .ireturn, 1)]
set_option maxRecDepth 100000 in
theorem sa_kv193 : ∀ q ∈ sa_k193, decode cX11_refuseAct q.1 = .ok q.2 ∧ sa_ln q.2.1 q.2.2 = true := by decide +kernel
set_option maxRecDepth 100000 in
def sa_k194 : List (Nat × Instr × Nat) := [(0, .aload_n 0, 1), (1, .getfield 62, 3), (4, .aload_n 0, 1), (5, .getfield 48, 3), (8, .getfield 68, 3), (11, .iload_n 1, 1), (12, .aload_n 0, 1), (13, .getfield 48, 3), (16, .getfield 68, 3), (19, .invokevirtual 149, 3), (22, .invokevirtual 234, 3), (25, .aload_n 0, 1), (26, .getfield 62, 3), (29, .invokevirtual 366, 3), (32, .ireturn, 1)]
set_option maxRecDepth 100000 in
theorem sa_kv194 : ∀ q ∈ sa_k194, decode cX11_fewestNow q.1 = .ok q.2 ∧ sa_ln q.2.1 q.2.2 = true := by decide +kernel
set_option maxRecDepth 100000 in
def sa_k195 : List (Nat × Instr × Nat) := [(0, .aload_n 0, 1), (1, .getfield 62, 3), (4, .aload_n 0, 1), (5, .getfield 48, 3), (8, .getfield 68, 3), (11, .iload_n 1, 1), (12, .aload_n 0, 1), (13, .getfield 48, 3), (16, .getfield 68, 3), (19, .invokevirtual 149, 3), (22, .invokevirtual 234, 3), (25, .aload_n 0, 1), (26, .getfield 62, 3), (29, .invokevirtual 369, 3), (32, .return_, 1)]
set_option maxRecDepth 100000 in
theorem sa_kv195 : ∀ q ∈ sa_k195, decode cX11_spreadFrom q.1 = .ok q.2 ∧ sa_ln q.2.1 q.2.2 = true := by decide +kernel
set_option maxRecDepth 100000 in
def sa_k196 : List (Nat × Instr × Nat) := [(0, .iload_n 0, 1), (1, .ifCond .lt 13, 3), (4, .iload_n 0, 1), (5, .bipush 64, 2), (7, .if_icmp .ge 7, 3), (10, .iconst 1, 1), (11, .goto 4, 3), (14, .iconst 0, 1), (15, .ireturn, 1)]
set_option maxRecDepth 100000 in
theorem sa_kv196 : ∀ q ∈ sa_k196, decode cX11_isBeliefSet q.1 = .ok q.2 ∧ sa_ln q.2.1 q.2.2 = true := by decide +kernel
set_option maxRecDepth 100000 in
def sa_k197 : List (Nat × Instr × Nat) := [(0, .lconst 0, 1), (1, .lstore_n 2, 1), (2, .iconst 0, 1), (3, .istore 4, 2), (5, .iload 4, 2), (7, .bipush 64, 2), (9, .if_icmp .ge 31, 3), (12, .iload 4, 2), (14, .iload_n 0, 1), (15, .iand, 1), (16, .iload_n 0, 1), (17, .if_icmp .ne 17, 3), (20, .iload 4, 2), (22, .iload_n 1, 1), (23, .iand, 1), (24, .ifCond .ne 10, 3), (27, .lload_n 2, 1), (28, .lconst 1, 1), (29, .iload 4, 2), (31, .lshl, 1), (32, .lor, 1), (33, .lstore_n 2, 1), (34, .iinc 4 1, 3), (37, .goto (-32), 3), (40, .lload_n 2, 1), (41, .lreturn, 1)]
set_option maxRecDepth 100000 in
theorem sa_kv197 : ∀ q ∈ sa_k197, decode cX11_setsWith q.1 = .ok q.2 ∧ sa_ln q.2.1 q.2.2 = true := by decide +kernel
set_option maxRecDepth 100000 in
def sa_k198 : List (Nat × Instr × Nat) := [(0, .aload_n 0, 1), (1, .getfield 27, 3), (4, .getfield 117, 3), (7, .iload_n 1, 1), (8, .invokevirtual 372, 3), (11, .ifCond .ne 11, 3), (14, .new 158, 3), (17, .dup, 1), (18, .invokespecial 160, 3), (21, .athrow, 1), (22, .return_, 1)]
set_option maxRecDepth 100000 in
theorem sa_kv198 : ∀ q ∈ sa_k198, decode cX11_checkCreature q.1 = .ok q.2 ∧ sa_ln q.2.1 q.2.2 = true := by decide +kernel
set_option maxRecDepth 100000 in
def sa_k199 : List (Nat × Instr × Nat) := [(0, .aload_n 0, 1), (1, .getfield 27, 3), (4, .getfield 126, 3), (7, .iload_n 1, 1), (8, .invokevirtual 372, 3), (11, .ifCond .ne 11, 3), (14, .new 158, 3), (17, .dup, 1), (18, .invokespecial 160, 3), (21, .athrow, 1), (22, .return_, 1)]
set_option maxRecDepth 100000 in
theorem sa_kv199 : ∀ q ∈ sa_k199, decode cX11_checkTrick q.1 = .ok q.2 ∧ sa_ln q.2.1 q.2.2 = true := by decide +kernel
set_option maxRecDepth 100000 in
def sa_k200 : List (Nat × Instr × Nat) := [(0, .aload_n 0, 1), (1, .getfield 27, 3), (4, .getfield 129, 3), (7, .iload_n 1, 1), (8, .invokevirtual 372, 3), (11, .ifCond .ne 11, 3), (14, .new 158, 3), (17, .dup, 1), (18, .invokespecial 160, 3), (21, .athrow, 1), (22, .return_, 1)]
set_option maxRecDepth 100000 in
theorem sa_kv200 : ∀ q ∈ sa_k200, decode cX11_checkHunter q.1 = .ok q.2 ∧ sa_ln q.2.1 q.2.2 = true := by decide +kernel
set_option maxRecDepth 100000 in
def sa_k201 : List (Nat × Instr × Nat) := [(0, .aload_n 0, 1), (1, .getfield 27, 3), (4, .getfield 132, 3), (7, .iload_n 1, 1), (8, .invokevirtual 372, 3), (11, .ifCond .ne 11, 3), (14, .new 158, 3), (17, .dup, 1), (18, .invokespecial 160, 3), (21, .athrow, 1), (22, .return_, 1)]
set_option maxRecDepth 100000 in
theorem sa_kv201 : ∀ q ∈ sa_k201, decode cX11_checkTale q.1 = .ok q.2 ∧ sa_ln q.2.1 q.2.2 = true := by decide +kernel
set_option maxRecDepth 100000 in
def sa_k202 : List (Nat × Instr × Nat) := [(0, .iload_n 1, 1), (1, .ifCond .lt 9, 3), (4, .iload_n 1, 1), (5, .bipush 6, 2), (7, .if_icmp .lt 11, 3), (10, .new 158, 3), (13, .dup, 1), (14, .invokespecial 160, 3), (17, .athrow, 1), (18, .return_, 1)]
set_option maxRecDepth 100000 in
theorem sa_kv202 : ∀ q ∈ sa_k202, decode cX11_checkBelief q.1 = .ok q.2 ∧ sa_ln q.2.1 q.2.2 = true := by decide +kernel
set_option maxRecDepth 100000 in
def sa_k203 : List (Nat × Instr × Nat) := [(0, .iload_n 1, 1), (1, .ifCond .lt 8, 3), (4, .iload_n 1, 1), (5, .iload_n 2, 1), (6, .if_icmp .le 11, 3), (9, .new 158, 3), (12, .dup, 1), (13, .invokespecial 160, 3), (16, .athrow, 1), (17, .return_, 1)]
set_option maxRecDepth 100000 in
theorem sa_kv203 : ∀ q ∈ sa_k203, decode cX11_checkWhat q.1 = .ok q.2 ∧ sa_ln q.2.1 q.2.2 = true := by decide +kernel
set_option maxRecDepth 100000 in
def sa_k204 : List (Nat × Instr × Nat) := [(0, .iload_n 1, 1), (1, .iconst 1, 1), (2, .if_icmp .lt 8, 3), (5, .iload_n 1, 1), (6, .iconst 4, 1), (7, .if_icmp .le 11, 3), (10, .new 101, 3), (13, .dup, 1), (14, .invokespecial 103, 3), (17, .athrow, 1), (18, .return_, 1)]
set_option maxRecDepth 100000 in
theorem sa_kv204 : ∀ q ∈ sa_k204, decode cX11_checkTries q.1 = .ok q.2 ∧ sa_ln q.2.1 q.2.2 = true := by decide +kernel
set_option maxRecDepth 100000 in
def sa_k205 : List (Nat × Instr × Nat) := [(0, .iload_n 1, 1), (1, .iload_n 2, 1), (2, .if_icmp .lt 9, 3), (5, .iload_n 1, 1), (6, .bipush 60, 2), (8, .if_icmp .le 11, 3), (11, .new 101, 3), (14, .dup, 1), (15, .invokespecial 103, 3), (18, .athrow, 1), (19, .return_, 1)]
set_option maxRecDepth 100000 in
theorem sa_kv205 : ∀ q ∈ sa_k205, decode cX11_checkAhead q.1 = .ok q.2 ∧ sa_ln q.2.1 q.2.2 = true := by decide +kernel
set_option maxRecDepth 100000 in
def sa_k206 : List (Nat × Instr × Nat) := [(0, .iload_n 1, 1), (1, .aload_n 0, 1), (2, .getfield 27, 3), (5, .getfield 117, 3), (8, .invokevirtual 348, 3), (11, .iconst (-1), 1), (12, .ixor, 1), (13, .iand, 1), (14, .ifCond .eq 11, 3), (17, .new 101, 3), (20, .dup, 1), (21, .invokespecial 103, 3), (24, .athrow, 1), (25, .return_, 1)]
set_option maxRecDepth 100000 in
theorem sa_kv206 : ∀ q ∈ sa_k206, decode cX11_checkCreatureSet q.1 = .ok q.2 ∧ sa_ln q.2.1 q.2.2 = true := by decide +kernel
set_option maxRecDepth 100000 in
def sa_k207 : List (Nat × Instr × Nat) := [(0, .aload_n 0, 1), (1, .invokespecial 1, 3), (4, .aload_n 0, 1), (5, .iconst (-1), 1), (6, .putfield 9, 3), (9, .aload_n 0, 1), (10, .bipush 6, 2), (12, .newarray .int, 2), (14, .putfield 13, 3), (17, .aload_n 0, 1), (18, .bipush 6, 2), (20, .newarray .int, 2), (22, .putfield 17, 3), (25, .aload_n 0, 1), (26, .bipush 6, 2), (28, .newarray .int, 2), (30, .putfield 20, 3), (33, .aload_n 0, 1), (34, .bipush 8, 2), (36, .newarray .int, 2), (38, .putfield 23, 3), (41, .aload_n 0, 1), (42, .bipush 8, 2), (44, .newarray .int, 2), (46, .putfield 26, 3), (49, .aload_n 0, 1), (50, .bipush 8, 2), (52, .newarray .int, 2), (54, .putfield 29, 3), (57, .aload_n 0, 1), (58, .bipush 8, 2), (60, .newarray .int, 2), (62, .putfield 32, 3), (65, .aload_n 0, 1), (66, .bipush 8, 2), (68, .newarray .int, 2), (70, .putfield 35, 3), (73, .aload_n 0, 1), (74, .bipush 8, 2), (76, .newarray .int, 2), (78, .putfield 38, 3), (81, .aload_n 0, 1), (82, .bipush 6, 2), (84, .newarray .int, 2), (86, .putfield 41, 3), (89, .aload_n 0, 1), (90, .bipush 6, 2), (92, .newarray .int, 2), (94, .putfield 44, 3), (97, .aload_n 0, 1), (98, .bipush 8, 2), (100, .newarray .int, 2), (102, .putfield 47, 3), (105, .aload_n 0, 1), (106, .sipush 1400, 3), (109, .newarray .int, 2), (111, .putfield 50, 3), (114, .aload_n 0, 1), (115, .sipush 700, 3), (118, .newarray .int, 2), (120, .putfield 53, 3), (123, .aload_n 0, 1), (124, .iconst (-1), 1), (125, .putfield 56, 3), (128, .aload_n 0, 1), (129, .iconst 3, 1), (130, .newarray .int, 2), (132, .putfield 59, 3), (135, .aload_n 0, 1), (136, .bipush 6, 2), (138, .newarray .int, 2), (140, .putfield 62, 3), (143, .aload_n 0, 1), (144, .bipush 6, 2), (146, .newarray .int, 2), (148, .putfield 65, 3), (151, .aload_n 0, 1), (152, .bipush 6, 2), (154, .newarray .int, 2), (156, .putfield 68, 3), (159, .aload_n 0, 1), (160, .bipush 8, 2), (162, .newarray .int, 2), (164, .putfield 71, 3), (167, .aload_n 0, 1), (168, .bipush 8, 2), (170, .newarray .int, 2), (172, .putfield 74, 3), (175, .aload_n 0, 1), (176, .bipush 8, 2), (178, .newarray .int, 2), (180, .putfield 77, 3), (183, .aload_n 0, 1), (184, .bipush 8, 2), (186, .newarray .int, 2), (188, .putfield 80, 3), (191, .aload_n 0, 1), (192, .bipush 8, 2), (194, .newarray .int, 2), (196, .putfield 83, 3), (199, .aload_n 0, 1), (200, .bipush 8, 2), (202, .newarray .int, 2), (204, .putfield 86, 3), (207, .aload_n 0, 1), (208, .bipush 6, 2), (210, .newarray .int, 2), (212, .putfield 89, 3), (215, .aload_n 0, 1), (216, .bipush 6, 2), (218, .newarray .int, 2), (220, .putfield 92, 3), (223, .aload_n 0, 1), (224, .bipush 8, 2), (226, .newarray .int, 2), (228, .putfield 95, 3), (231, .aload_n 0, 1), (232, .bipush 27, 2), (234, .newarray .int, 2), (236, .putfield 98, 3), (239, .aload_n 0, 1), (240, .sipush 1400, 3), (243, .newarray .int, 2), (245, .putfield 101, 3), (248, .aload_n 0, 1), (249, .sipush 950, 3), (252, .newarray .int, 2), (254, .putfield 104, 3), (257, .aload_n 0, 1), (258, .bipush 9, 2), (260, .newarray .boolean, 2), (262, .putfield 107, 3), (265, .aload_n 0, 1), (266, .bipush 54, 2), (268, .newarray .int, 2), (270, .putfield 111, 3), (273, .aload_n 0, 1), (274, .sipush 1080, 3), (277, .newarray .int, 2), (279, .putfield 114, 3), (282, .aload_n 0, 1), (283, .bipush 6, 2), (285, .newarray .int, 2), (287, .putfield 117, 3), (290, .aload_n 0, 1), (291, .sipush 950, 3), (294, .newarray .int, 2), (296, .putfield 120, 3), (299, .aload_n 0, 1), (300, .sipush 3904, 3), (303, .newarray .int, 2), (305, .putfield 123, 3), (308, .aload_n 0, 1), (309, .sipush 3904, 3), (312, .newarray .int, 2), (314, .putfield 126, 3), (317, .aload_n 0, 1), (318, .sipush 3904, 3), (321, .newarray .int, 2), (323, .putfield 129, 3), (326, .aload_n 0, 1), (327, .sipush 3904, 3), (330, .newarray .int, 2), (332, .putfield 132, 3), (335, .aload_n 0, 1), (336, .sipush 3904, 3), (339, .newarray .int, 2), (341, .putfield 135, 3), (344, .aload_n 0, 1), (345, .sipush 3905, 3), (348, .newarray .int, 2), (350, .putfield 138, 3), (353, .aload_n 0, 1), (354, .sipush 3904, 3), (357, .newarray .boolean, 2), (359, .putfield 141, 3), (362, .aload_n 0, 1), (363, .bipush 64, 2), (365, .newarray .int, 2), (367, .putfield 144, 3), (370, .aload_n 0, 1), (371, .sipush 384, 3), (374, .newarray .int, 2), (376, .putfield 147, 3), (379, .aload_n 0, 1), (380, .bipush 32, 2), (382, .newarray .int, 2), (384, .putfield 150, 3), (387, .aload_n 0, 1), (388, .iconst 5, 1), (389, .newarray .int, 2), (391, .putfield 153, 3), (394, .aload_n 0, 1), (395, .iconst 4, 1), (396, .newarray .int, 2), (398, .putfield 156, 3), (401, .aload_n 0, 1), (402, .iconst 5, 1), (403, .newarray .long, 2), (405, .putfield 159, 3), (408, .aload_n 0, 1), (409, .bipush 27, 2), (411, .newarray .int, 2), (413, .putfield 163, 3), (416, .aload_n 0, 1), (417, .sipush 1080, 3), (420, .newarray .int, 2), (422, .putfield 166, 3), (425, .aload_n 0, 1), (426, .bipush 32, 2), (428, .newarray .int, 2), (430, .putfield 169, 3), (433, .aload_n 0, 1), (434, .getfield 111, 3), (437, .iconst 0, 1), (438, .bipush 50, 2), (440, .iastore, 1), (441, .aload_n 0, 1), (442, .getfield 111, 3), (445, .iconst 2, 1), (446, .iconst (-1), 1), (447, .iastore, 1), (448, .return_, 1)]
set_option maxRecDepth 100000 in
theorem sa_kv207 : ∀ q ∈ sa_k207, decode cX12_init q.1 = .ok q.2 ∧ sa_ln q.2.1 q.2.2 = true := by decide +kernel
set_option maxRecDepth 100000 in
def sa_k208 : List (Nat × Instr × Nat) := [(0, .aload_n 0, 1), (1, .getfield 172, 3), (4, .ireturn, 1)]
set_option maxRecDepth 100000 in
theorem sa_kv208 : ∀ q ∈ sa_k208, decode cX12_thrown q.1 = .ok q.2 ∧ sa_ln q.2.1 q.2.2 = true := by decide +kernel
set_option maxRecDepth 100000 in
def sa_k209 : List (Nat × Instr × Nat) := [(0, .aload_n 0, 1), (1, .getfield 172, 3), (4, .ifCond .ne 12, 3), (7, .iload_n 1, 1), (8, .ifCond .ne 8, 3), (11, .aload_n 0, 1), (12, .iload_n 2, 1), (13, .putfield 172, 3), (16, .aload_n 0, 1), (17, .getfield 172, 3), (20, .ifCond .ne 7, 3), (23, .iconst 1, 1), (24, .goto 4, 3), (27, .iconst 0, 1), (28, .ireturn, 1)]
set_option maxRecDepth 100000 in
theorem sa_kv209 : ∀ q ∈ sa_k209, decode cX12_right q.1 = .ok q.2 ∧ sa_ln q.2.1 q.2.2 = true := by decide +kernel
set_option maxRecDepth 100000 in
def sa_k210 : List (Nat × Instr × Nat) := [(0, .iload_n 0, 1), (1, .iload_n 1, 1), (2, .if_icmp .lt 12, 3), (5, .iload_n 0, 1), (6, .iload_n 2, 1), (7, .if_icmp .gt 7, 3), (10, .iconst 1, 1), (11, .goto 4, 3), (14, .iconst 0, 1), (15, .ireturn, 1)]
set_option maxRecDepth 100000 in
theorem sa_kv210 : ∀ q ∈ sa_k210, decode cX12_within q.1 = .ok q.2 ∧ sa_ln q.2.1 q.2.2 = true := by decide +kernel
set_option maxRecDepth 100000 in
def sa_k211 : List (Nat × Instr × Nat) := [(0, .iload_n 0, 1), (1, .iload_n 1, 1), (2, .if_icmp .ge 7, 3), (5, .iload_n 0, 1), (6, .goto 4, 3), (9, .iload_n 1, 1), (10, .ireturn, 1)]
set_option maxRecDepth 100000 in
theorem sa_kv211 : ∀ q ∈ sa_k211, decode cX12_lesser q.1 = .ok q.2 ∧ sa_ln q.2.1 q.2.2 = true := by decide +kernel
end
section
set_option maxRecDepth 100000 in
def sa_k212 : List (Nat × Instr × Nat) := [(0, .iconst 0, 1), (1, .istore_n 3, 1), (2, .iload_n 3, 1), (3, .aload_n 1, 1), (4, .arraylength, 1), (5, .if_icmp .ge 15, 3), (8, .aload_n 2, 1), (9, .iload_n 3, 1), (10, .aload_n 1, 1), (11, .iload_n 3, 1), (12, .iaload, 1), (13, .iastore, 1), (14, .iinc 3 1, 3), (17, .goto (-15), 3), (20, .return_, 1)]
set_option maxRecDepth 100000 in
theorem sa_kv212 : ∀ q ∈ sa_k212, decode cX12_copies q.1 = .ok q.2 ∧ sa_ln q.2.1 q.2.2 = true := by decide +kernel
set_option maxRecDepth 100000 in
def sa_k213 : List (Nat × Instr × Nat) := [(0, .iconst 0, 1), (1, .istore_n 1, 1), (2, .iconst 0, 1), (3, .istore_n 2, 1), (4, .iload_n 2, 1), (5, .bipush 10, 2), (7, .if_icmp .ge 17, 3), (10, .iload_n 1, 1), (11, .iload_n 0, 1), (12, .iload_n 2, 1), (13, .ishr, 1), (14, .iconst 1, 1), (15, .iand, 1), (16, .iadd, 1), (17, .istore_n 1, 1), (18, .iinc 2 1, 3), (21, .goto (-17), 3), (24, .iload_n 1, 1), (25, .ireturn, 1)]
set_option maxRecDepth 100000 in
theorem sa_kv213 : ∀ q ∈ sa_k213, decode cX12_bits q.1 = .ok q.2 ∧ sa_ln q.2.1 q.2.2 = true := by decide +kernel
set_option maxRecDepth 100000 in
def sa_k214 : List (Nat × Instr × Nat) := [(0, .aload_n 0, 1), (1, .iconst 0, 1), (2, .putfield 172, 3), (5, .aload_n 0, 1), (6, .getfield 175, 3), (9, .bipush 20, 2), (11, .iadd, 1), (12, .sipush 700, 3), (15, .if_icmp .le 5, 3), (18, .iconst (-1), 1), (19, .ireturn, 1), (20, .aload_n 0, 1), (21, .iload_n 1, 1), (22, .invokevirtual 178, 3), (25, .aload_n 0, 1), (26, .iload_n 2, 1), (27, .invokevirtual 178, 3), (30, .aload_n 0, 1), (31, .iload_n 3, 1), (32, .invokevirtual 178, 3), (35, .aload_n 0, 1), (36, .iload 4, 2), (38, .invokevirtual 178, 3), (41, .aload_n 0, 1), (42, .iload 5, 2), (44, .invokevirtual 178, 3), (47, .aload_n 0, 1), (48, .getfield 175, 3), (51, .ireturn, 1)]
set_option maxRecDepth 100000 in
theorem sa_kv214 : ∀ q ∈ sa_k214, decode cX12_feed q.1 = .ok q.2 ∧ sa_ln q.2.1 q.2.2 = true := by decide +kernel
set_option maxRecDepth 100000 in
def sa_k215 : List (Nat × Instr × Nat) := [(0, .bipush 24, 2), (2, .istore_n 2, 1), (3, .iload_n 2, 1), (4, .ifCond .lt 35, 3), (7, .aload_n 0, 1), (8, .getfield 53, 3), (11, .aload_n 0, 1), (12, .getfield 175, 3), (15, .iload_n 1, 1), (16, .iload_n 2, 1), (17, .ishr, 1), (18, .sipush 255, 3), (21, .iand, 1), (22, .iastore, 1), (23, .aload_n 0, 1), (24, .dup, 1), (25, .getfield 175, 3), (28, .iconst 1, 1), (29, .iadd, 1), (30, .putfield 175, 3), (33, .iinc 2 (-8), 3), (36, .goto (-33), 3), (39, .return_, 1)]
set_option maxRecDepth 100000 in
theorem sa_kv215 : ∀ q ∈ sa_k215, decode cX12_lays q.1 = .ok q.2 ∧ sa_ln q.2.1 q.2.2 = true := by decide +kernel
set_option maxRecDepth 100000 in
def sa_k216 : List (Nat × Instr × Nat) := [(0, .iload_n 1, 1), (1, .aload_n 0, 1), (2, .getfield 182, 3), (5, .if_icmp .ge 12, 3), (8, .aload_n 0, 1), (9, .getfield 53, 3), (12, .iload_n 1, 1), (13, .iaload, 1), (14, .goto 4, 3), (17, .iconst 0, 1), (18, .ireturn, 1)]
set_option maxRecDepth 100000 in
theorem sa_kv216 : ∀ q ∈ sa_k216, decode cX12_byteAt q.1 = .ok q.2 ∧ sa_ln q.2.1 q.2.2 = true := by decide +kernel
set_option maxRecDepth 100000 in
def sa_k217 : List (Nat × Instr × Nat) := [(0, .iload_n 0, 1), (1, .bipush 97, 2), (3, .if_icmp .lt 13, 3), (6, .iload_n 0, 1), (7, .bipush 122, 2), (9, .if_icmp .gt 7, 3), (12, .iconst 1, 1), (13, .goto 4, 3), (16, .iconst 0, 1), (17, .ireturn, 1)]
set_option maxRecDepth 100000 in
theorem sa_kv217 : ∀ q ∈ sa_k217, decode cX12_isLetter q.1 = .ok q.2 ∧ sa_ln q.2.1 q.2.2 = true := by decide +kernel
set_option maxRecDepth 100000 in
def sa_k218 : List (Nat × Instr × Nat) := [(0, .iload_n 0, 1), (1, .bipush 48, 2), (3, .if_icmp .lt 13, 3), (6, .iload_n 0, 1), (7, .bipush 57, 2), (9, .if_icmp .gt 7, 3), (12, .iconst 1, 1), (13, .goto 4, 3), (16, .iconst 0, 1), (17, .ireturn, 1)]
set_option maxRecDepth 100000 in
theorem sa_kv218 : ∀ q ∈ sa_k218, decode cX12_isDigit q.1 = .ok q.2 ∧ sa_ln q.2.1 q.2.2 = true := by decide +kernel
set_option maxRecDepth 100000 in
def sa_k219 : List (Nat × Instr × Nat) := [(0, .aload_n 0, 1), (1, .getfield 185, 3), (4, .aload_n 0, 1), (5, .getfield 182, 3), (8, .if_icmp .ge 42, 3), (11, .aload_n 0, 1), (12, .aload_n 0, 1), (13, .getfield 185, 3), (16, .invokevirtual 188, 3), (19, .bipush 32, 2), (21, .if_icmp .eq 16, 3), (24, .aload_n 0, 1), (25, .aload_n 0, 1), (26, .getfield 185, 3), (29, .invokevirtual 188, 3), (32, .bipush 10, 2), (34, .if_icmp .ne 16, 3), (37, .aload_n 0, 1), (38, .dup, 1), (39, .getfield 185, 3), (42, .iconst 1, 1), (43, .iadd, 1), (44, .putfield 185, 3), (47, .goto (-47), 3), (50, .aload_n 0, 1), (51, .aload_n 0, 1), (52, .getfield 185, 3), (55, .putfield 192, 3), (58, .aload_n 0, 1), (59, .lconst 0, 1), (60, .putfield 195, 3), (63, .aload_n 0, 1), (64, .iconst 0, 1), (65, .putfield 199, 3), (68, .aload_n 0, 1), (69, .aload_n 0, 1), (70, .getfield 185, 3), (73, .invokevirtual 188, 3), (76, .istore_n 1, 1), (77, .aload_n 0, 1), (78, .iload_n 1, 1), (79, .putfield 202, 3), (82, .aload_n 0, 1), (83, .getfield 185, 3), (86, .aload_n 0, 1), (87, .getfield 182, 3), (90, .if_icmp .lt 11, 3), (93, .aload_n 0, 1), (94, .iconst 0, 1), (95, .putfield 205, 3), (98, .goto 233, 3), (101, .iload_n 1, 1), (102, .invokestatic 208, 3), (105, .ifCond .eq 75, 3), (108, .aload_n 0, 1), (109, .aload_n 0, 1), (110, .getfield 185, 3), (113, .invokevirtual 188, 3), (116, .invokestatic 208, 3), (119, .ifCond .eq 53, 3), (122, .aload_n 0, 1), (123, .getfield 185, 3), (126, .aload_n 0, 1), (127, .getfield 192, 3), (130, .isub, 1), (131, .bipush 8, 2), (133, .if_icmp .ge 26, 3), (136, .aload_n 0, 1), (137, .aload_n 0, 1), (138, .getfield 195, 3), (141, .iconst 5, 1), (142, .lshl, 1), (143, .aload_n 0, 1), (144, .aload_n 0, 1), (145, .getfield 185, 3), (148, .invokevirtual 188, 3), (151, .bipush 96, 2), (153, .isub, 1), (154, .i2l, 1), (155, .lor, 1), (156, .putfield 195, 3), (159, .aload_n 0, 1), (160, .dup, 1), (161, .getfield 185, 3), (164, .iconst 1, 1), (165, .iadd, 1), (166, .putfield 185, 3), (169, .goto (-61), 3), (172, .aload_n 0, 1), (173, .iconst 1, 1), (174, .putfield 205, 3), (177, .goto 154, 3), (180, .iload_n 1, 1), (181, .invokestatic 212, 3), (184, .ifCond .eq 74, 3), (187, .aload_n 0, 1), (188, .aload_n 0, 1), (189, .getfield 185, 3), (192, .invokevirtual 188, 3), (195, .invokestatic 212, 3), (198, .ifCond .eq 52, 3), (201, .aload_n 0, 1), (202, .getfield 185, 3), (205, .aload_n 0, 1), (206, .getfield 192, 3), (209, .isub, 1), (210, .iconst 4, 1), (211, .if_icmp .ge 26, 3), (214, .aload_n 0, 1), (215, .bipush 10, 2), (217, .aload_n 0, 1), (218, .getfield 199, 3), (221, .imul, 1), (222, .aload_n 0, 1), (223, .aload_n 0, 1), (224, .getfield 185, 3), (227, .invokevirtual 188, 3), (230, .iadd, 1), (231, .bipush 48, 2), (233, .isub, 1), (234, .putfield 199, 3), (237, .aload_n 0, 1), (238, .dup, 1), (239, .getfield 185, 3), (242, .iconst 1, 1), (243, .iadd, 1), (244, .putfield 185, 3), (247, .goto (-60), 3), (250, .aload_n 0, 1), (251, .iconst 2, 1), (252, .putfield 205, 3), (255, .goto 76, 3), (258, .aload_n 0, 1), (259, .dup, 1), (260, .getfield 185, 3), (263, .iconst 1, 1), (264, .iadd, 1), (265, .putfield 185, 3), (268, .aload_n 0, 1), (269, .iload_n 1, 1), (270, .bipush 59, 2), (272, .if_icmp .eq 51, 3), (275, .iload_n 1, 1), (276, .bipush 40, 2), (278, .if_icmp .eq 45, 3), (281, .iload_n 1, 1), (282, .bipush 41, 2), (284, .if_icmp .eq 39, 3), (287, .iload_n 1, 1), (288, .bipush 43, 2), (290, .if_icmp .eq 33, 3), (293, .iload_n 1, 1), (294, .bipush 45, 2), (296, .if_icmp .eq 27, 3), (299, .iload_n 1, 1), (300, .bipush 42, 2), (302, .if_icmp .eq 21, 3), (305, .iload_n 1, 1), (306, .bipush 47, 2), (308, .if_icmp .eq 15, 3), (311, .iload_n 1, 1), (312, .bipush 60, 2), (314, .if_icmp .eq 9, 3), (317, .iload_n 1, 1), (318, .bipush 61, 2), (320, .if_icmp .ne 7, 3), (323, .iconst 3, 1), (324, .goto 4, 3), (327, .iconst 4, 1), (328, .putfield 205, 3), (331, .aload_n 0, 1), (332, .aload_n 0, 1), (333, .getfield 185, 3), (336, .aload_n 0, 1), (337, .getfield 192, 3), (340, .isub, 1), (341, .putfield 215, 3), (344, .return_, 1)]
set_option maxRecDepth 100000 in
theorem sa_kv219 : ∀ q ∈ sa_k219, decode cX12_goes q.1 = .ok q.2 ∧ sa_ln q.2.1 q.2.2 = true := by decide +kernel
set_option maxRecDepth 100000 in
def sa_k220 : List (Nat × Instr × Nat) := [(0, .iload_n 0, 1), (1, .i2l, 1), (2, .ldc2_w 218, 3), (5, .lsub, 1), (6, .iconst 5, 1), (7, .lshl, 1), (8, .iload_n 1, 1), (9, .bipush 96, 2), (11, .isub, 1), (12, .i2l, 1), (13, .lor, 1), (14, .lstore 8, 2), (16, .iload_n 2, 1), (17, .ifCond .eq 15, 3), (20, .lload 8, 2), (22, .iconst 5, 1), (23, .lshl, 1), (24, .iload_n 2, 1), (25, .bipush 96, 2), (27, .isub, 1), (28, .i2l, 1), (29, .lor, 1), (30, .lstore 8, 2), (32, .iload_n 3, 1), (33, .ifCond .eq 15, 3), (36, .lload 8, 2), (38, .iconst 5, 1), (39, .lshl, 1), (40, .iload_n 3, 1), (41, .bipush 96, 2), (43, .isub, 1), (44, .i2l, 1), (45, .lor, 1), (46, .lstore 8, 2), (48, .iload 4, 2), (50, .ifCond .eq 16, 3), (53, .lload 8, 2), (55, .iconst 5, 1), (56, .lshl, 1), (57, .iload 4, 2), (59, .bipush 96, 2), (61, .isub, 1), (62, .i2l, 1), (63, .lor, 1), (64, .lstore 8, 2), (66, .iload 5, 2), (68, .ifCond .eq 16, 3), (71, .lload 8, 2), (73, .iconst 5, 1), (74, .lshl, 1), (75, .iload 5, 2), (77, .bipush 96, 2), (79, .isub, 1), (80, .i2l, 1), (81, .lor, 1), (82, .lstore 8, 2), (84, .iload 6, 2), (86, .ifCond .eq 16, 3), (89, .lload 8, 2), (91, .iconst 5, 1), (92, .lshl, 1), (93, .iload 6, 2), (95, .bipush 96, 2), (97, .isub, 1), (98, .i2l, 1), (99, .lor, 1), (100, .lstore 8, 2), (102, .iload 7, 2), (104, .ifCond .eq 16, 3), (107, .lload 8, 2), (109, .iconst 5, 1), (110, .lshl, 1), (111, .iload 7, 2), (113, .bipush 96, 2), (115, .isub, 1), (116, .i2l, 1), (117, .lor, 1), (118, .lstore 8, 2), (120, .lload 8, 2), (122, .lreturn, 1)]
set_option maxRecDepth 100000 in
theorem sa_kv220 : ∀ q ∈ sa_k220, decode cX12_spelled q.1 = .ok q.2 ∧ sa_ln q.2.1 q.2.2 = true := by decide +kernel
set_option maxRecDepth 100000 in
def sa_k221 : List (Nat × Instr × Nat) := [(0, .iload_n 0, 1), (1, .tableswitch 330 0 14 #[75, 91, 111, 127, 146, 163, 179, 199, 216, 234, 250, 267, 284, 301, 316], 75), (76, .bipush 99, 2), (78, .bipush 111, 2), (80, .bipush 114, 2), (82, .bipush 100, 2), (84, .iconst 0, 1), (85, .iconst 0, 1), (86, .iconst 0, 1), (87, .iconst 0, 1), (88, .invokestatic 220, 3), (91, .lreturn, 1), (92, .bipush 115, 2), (94, .bipush 116, 2), (96, .bipush 114, 2), (98, .bipush 101, 2), (100, .bipush 110, 2), (102, .bipush 103, 2), (104, .bipush 116, 2), (106, .bipush 104, 2), (108, .invokestatic 220, 3), (111, .lreturn, 1), (112, .bipush 119, 2), (114, .bipush 97, 2), (116, .bipush 114, 2), (118, .bipush 121, 2), (120, .iconst 0, 1), (121, .iconst 0, 1), (122, .iconst 0, 1), (123, .iconst 0, 1), (124, .invokestatic 220, 3), (127, .lreturn, 1), (128, .bipush 98, 2), (130, .bipush 101, 2), (132, .bipush 108, 2), (134, .bipush 105, 2), (136, .bipush 101, 2), (138, .bipush 102, 2), (140, .bipush 115, 2), (142, .iconst 0, 1), (143, .invokestatic 220, 3), (146, .lreturn, 1), (147, .bipush 112, 2), (149, .bipush 114, 2), (151, .bipush 105, 2), (153, .bipush 99, 2), (155, .bipush 101, 2), (157, .iconst 0, 1), (158, .iconst 0, 1), (159, .iconst 0, 1), (160, .invokestatic 220, 3), (163, .lreturn, 1), (164, .bipush 104, 2), (166, .bipush 101, 2), (168, .bipush 108, 2), (170, .bipush 112, 2), (172, .iconst 0, 1), (173, .iconst 0, 1), (174, .iconst 0, 1), (175, .iconst 0, 1), (176, .invokestatic 220, 3), (179, .lreturn, 1), (180, .bipush 99, 2), (182, .bipush 114, 2), (184, .bipush 101, 2), (186, .bipush 97, 2), (188, .bipush 116, 2), (190, .bipush 117, 2), (192, .bipush 114, 2), (194, .bipush 101, 2), (196, .invokestatic 220, 3), (199, .lreturn, 1), (200, .bipush 116, 2), (202, .bipush 114, 2), (204, .bipush 105, 2), (206, .bipush 99, 2), (208, .bipush 107, 2), (210, .iconst 0, 1), (211, .iconst 0, 1), (212, .iconst 0, 1), (213, .invokestatic 220, 3), (216, .lreturn, 1), (217, .bipush 104, 2), (219, .bipush 117, 2), (221, .bipush 110, 2), (223, .bipush 116, 2), (225, .bipush 101, 2), (227, .bipush 114, 2), (229, .iconst 0, 1), (230, .iconst 0, 1), (231, .invokestatic 220, 3), (234, .lreturn, 1), (235, .bipush 116, 2), (237, .bipush 97, 2), (239, .bipush 108, 2), (241, .bipush 101, 2), (243, .iconst 0, 1), (244, .iconst 0, 1), (245, .iconst 0, 1), (246, .iconst 0, 1), (247, .invokestatic 220, 3), (250, .lreturn, 1), (251, .bipush 99, 2), (253, .bipush 111, 2), (255, .bipush 105, 2), (257, .bipush 110, 2), (259, .bipush 115, 2), (261, .iconst 0, 1), (262, .iconst 0, 1), (263, .iconst 0, 1), (264, .invokestatic 220, 3), (267, .lreturn, 1), (268, .bipush 114, 2), (270, .bipush 105, 2), (272, .bipush 118, 2), (274, .bipush 97, 2), (276, .bipush 108, 2), (278, .iconst 0, 1), (279, .iconst 0, 1), (280, .iconst 0, 1), (281, .invokestatic 220, 3), (284, .lreturn, 1), (285, .bipush 98, 2), (287, .bipush 111, 2), (289, .bipush 117, 2), (291, .bipush 110, 2), (293, .bipush 100, 2), (295, .iconst 0, 1), (296, .iconst 0, 1), (297, .iconst 0, 1), (298, .invokestatic 220, 3), (301, .lreturn, 1), (302, .bipush 97, 2), (304, .bipush 110, 2), (306, .bipush 100, 2), (308, .iconst 0, 1), (309, .iconst 0, 1), (310, .iconst 0, 1), (311, .iconst 0, 1), (312, .iconst 0, 1), (313, .invokestatic 220, 3), (316, .lreturn, 1), (317, .bipush 111, 2), (319, .bipush 114, 2), (321, .iconst 0, 1), (322, .iconst 0, 1), (323, .iconst 0, 1), (324, .iconst 0, 1), (325, .iconst 0, 1), (326, .iconst 0, 1), (327, .invokestatic 220, 3), (330, .lreturn, 1), (331, .bipush 110, 2), (333, .bipush 111, 2), (335, .bipush 116, 2), (337, .iconst 0, 1), (338, .iconst 0, 1), (339, .iconst 0, 1), (340, .iconst 0, 1), (341, .iconst 0, 1), (342, .invokestatic 220, 3), (345, .lreturn, 1)]
set_option maxRecDepth 100000 in
theorem sa_kv221 : ∀ q ∈ sa_k221, decode cX12_letters q.1 = .ok q.2 ∧ sa_ln q.2.1 q.2.2 = true := by decide +kernel
set_option maxRecDepth 100000 in
def sa_k222 : List (Nat × Instr × Nat) := [(0, .aload_n 0, 1), (1, .getfield 205, 3), (4, .iconst 1, 1), (5, .if_icmp .ne 12, 3), (8, .aload_n 0, 1), (9, .getfield 215, 3), (12, .bipush 8, 2), (14, .if_icmp .le 5, 3), (17, .iconst (-1), 1), (18, .ireturn, 1), (19, .iconst 0, 1), (20, .istore_n 1, 1), (21, .iload_n 1, 1), (22, .bipush 16, 2), (24, .if_icmp .ge 23, 3), (27, .iload_n 1, 1), (28, .invokestatic 224, 3), (31, .aload_n 0, 1), (32, .getfield 195, 3), (35, .lcmp, 1), (36, .ifCond .ne 5, 3), (39, .iload_n 1, 1), (40, .ireturn, 1), (41, .iinc 1 1, 3), (44, .goto (-23), 3), (47, .iconst (-1), 1), (48, .ireturn, 1)]
set_option maxRecDepth 100000 in
theorem sa_kv222 : ∀ q ∈ sa_k222, decode cX12_knownWord q.1 = .ok q.2 ∧ sa_ln q.2.1 q.2.2 = true := by decide +kernel
set_option maxRecDepth 100000 in
def sa_k223 : List (Nat × Instr × Nat) := [(0, .aload_n 0, 1), (1, .getfield 228, 3), (4, .ifCond .eq 4, 3), (7, .return_, 1), (8, .aload_n 0, 1), (9, .iload_n 1, 1), (10, .putfield 228, 3), (13, .aload_n 0, 1), (14, .aload_n 0, 1), (15, .getfield 192, 3), (18, .putfield 56, 3), (21, .return_, 1)]
set_option maxRecDepth 100000 in
theorem sa_kv223 : ∀ q ∈ sa_k223, decode cX12_wrong q.1 = .ok q.2 ∧ sa_ln q.2.1 q.2.2 = true := by decide +kernel
set_option maxRecDepth 100000 in
def sa_k224 : List (Nat × Instr × Nat) := [(0, .aload_n 0, 1), (1, .getfield 228, 3), (4, .ifCond .ne 7, 3), (7, .iconst 1, 1), (8, .goto 4, 3), (11, .iconst 0, 1), (12, .ireturn, 1)]
set_option maxRecDepth 100000 in
theorem sa_kv224 : ∀ q ∈ sa_k224, decode cX12_isGood q.1 = .ok q.2 ∧ sa_ln q.2.1 q.2.2 = true := by decide +kernel
set_option maxRecDepth 100000 in
def sa_k225 : List (Nat × Instr × Nat) := [(0, .aload_n 0, 1), (1, .getfield 205, 3), (4, .iconst 3, 1), (5, .if_icmp .ne 15, 3), (8, .aload_n 0, 1), (9, .getfield 202, 3), (12, .iload_n 1, 1), (13, .if_icmp .ne 7, 3), (16, .iconst 1, 1), (17, .goto 4, 3), (20, .iconst 0, 1), (21, .ireturn, 1)]
set_option maxRecDepth 100000 in
theorem sa_kv225 : ∀ q ∈ sa_k225, decode cX12_isSign q.1 = .ok q.2 ∧ sa_ln q.2.1 q.2.2 = true := by decide +kernel
set_option maxRecDepth 100000 in
def sa_k226 : List (Nat × Instr × Nat) := [(0, .aload_n 0, 1), (1, .invokevirtual 231, 3), (4, .ifCond .ne 4, 3), (7, .return_, 1), (8, .iload_n 1, 1), (9, .ifCond .eq 10, 3), (12, .aload_n 0, 1), (13, .invokevirtual 235, 3), (16, .goto 8, 3), (19, .aload_n 0, 1), (20, .iconst 1, 1), (21, .invokevirtual 238, 3), (24, .return_, 1)]
set_option maxRecDepth 100000 in
theorem sa_kv226 : ∀ q ∈ sa_k226, decode cX12_need q.1 = .ok q.2 ∧ sa_ln q.2.1 q.2.2 = true := by decide +kernel
set_option maxRecDepth 100000 in
def sa_k227 : List (Nat × Instr × Nat) := [(0, .aload_n 0, 1), (1, .invokevirtual 231, 3), (4, .ifCond .ne 5, 3), (7, .iconst 0, 1), (8, .ireturn, 1), (9, .aload_n 0, 1), (10, .getfield 205, 3), (13, .iconst 2, 1), (14, .if_icmp .eq 11, 3), (17, .aload_n 0, 1), (18, .iconst 1, 1), (19, .invokevirtual 238, 3), (22, .goto 32, 3), (25, .aload_n 0, 1), (26, .getfield 215, 3), (29, .iconst 4, 1), (30, .if_icmp .gt 19, 3), (33, .aload_n 0, 1), (34, .getfield 199, 3), (37, .iload_n 1, 1), (38, .if_icmp .lt 11, 3), (41, .aload_n 0, 1), (42, .getfield 199, 3), (45, .iload_n 2, 1), (46, .if_icmp .le 8, 3), (49, .aload_n 0, 1), (50, .iconst 2, 1), (51, .invokevirtual 238, 3), (54, .aload_n 0, 1), (55, .getfield 199, 3), (58, .istore_n 3, 1), (59, .aload_n 0, 1), (60, .invokevirtual 231, 3), (63, .ifCond .eq 7, 3), (66, .aload_n 0, 1), (67, .invokevirtual 235, 3), (70, .iload_n 3, 1), (71, .ireturn, 1)]
set_option maxRecDepth 100000 in
theorem sa_kv227 : ∀ q ∈ sa_k227, decode cX12_number q.1 = .ok q.2 ∧ sa_ln q.2.1 q.2.2 = true := by decide +kernel
set_option maxRecDepth 100000 in
def sa_k228 : List (Nat × Instr × Nat) := [(0, .aload_n 0, 1), (1, .getfield 101, 3), (4, .aload_n 0, 1), (5, .getfield 241, 3), (8, .iload_n 1, 1), (9, .iastore, 1), (10, .aload_n 0, 1), (11, .dup, 1), (12, .getfield 241, 3), (15, .iconst 1, 1), (16, .iadd, 1), (17, .putfield 241, 3), (20, .return_, 1)]
set_option maxRecDepth 100000 in
theorem sa_kv228 : ∀ q ∈ sa_k228, decode cX12_puts q.1 = .ok q.2 ∧ sa_ln q.2.1 q.2.2 = true := by decide +kernel
set_option maxRecDepth 100000 in
def sa_k229 : List (Nat × Instr × Nat) := [(0, .iload_n 0, 1), (1, .bipush 14, 2), (3, .if_icmp .lt 7, 3), (6, .iconst 1, 1), (7, .goto 4, 3), (10, .iconst 0, 1), (11, .ireturn, 1)]
set_option maxRecDepth 100000 in
theorem sa_kv229 : ∀ q ∈ sa_k229, decode cX12_isOpen q.1 = .ok q.2 ∧ sa_ln q.2.1 q.2.2 = true := by decide +kernel
set_option maxRecDepth 100000 in
def sa_k230 : List (Nat × Instr × Nat) := [(0, .iload_n 0, 1), (1, .iconst 5, 1), (2, .if_icmp .ne 7, 3), (5, .iconst 1, 1), (6, .goto 55, 3), (9, .iload_n 0, 1), (10, .iconst 4, 1), (11, .if_icmp .ne 7, 3), (14, .iconst 2, 1), (15, .goto 46, 3), (18, .iload_n 0, 1), (19, .iconst 3, 1), (20, .if_icmp .ne 7, 3), (23, .iconst 3, 1), (24, .goto 37, 3), (27, .iload_n 0, 1), (28, .bipush 6, 2), (30, .if_icmp .eq 9, 3), (33, .iload_n 0, 1), (34, .bipush 7, 2), (36, .if_icmp .ne 7, 3), (39, .iconst 4, 1), (40, .goto 21, 3), (43, .iload_n 0, 1), (44, .bipush 8, 2), (46, .if_icmp .eq 9, 3), (49, .iload_n 0, 1), (50, .bipush 9, 2), (52, .if_icmp .ne 7, 3), (55, .iconst 5, 1), (56, .goto 5, 3), (59, .bipush 6, 2), (61, .ireturn, 1)]
set_option maxRecDepth 100000 in
theorem sa_kv230 : ∀ q ∈ sa_k230, decode cX12_strength q.1 = .ok q.2 ∧ sa_ln q.2.1 q.2.2 = true := by decide +kernel
set_option maxRecDepth 100000 in
def sa_k231 : List (Nat × Instr × Nat) := [(0, .aload_n 0, 1), (1, .getfield 244, 3), (4, .ifCond .le 64, 3), (7, .aload_n 0, 1), (8, .getfield 104, 3), (11, .aload_n 0, 1), (12, .getfield 244, 3), (15, .iconst 1, 1), (16, .isub, 1), (17, .iaload, 1), (18, .invokestatic 247, 3), (21, .ifCond .ne 47, 3), (24, .aload_n 0, 1), (25, .getfield 104, 3), (28, .aload_n 0, 1), (29, .getfield 244, 3), (32, .iconst 1, 1), (33, .isub, 1), (34, .iaload, 1), (35, .invokestatic 250, 3), (38, .iload_n 1, 1), (39, .if_icmp .lt 29, 3), (42, .aload_n 0, 1), (43, .dup, 1), (44, .getfield 244, 3), (47, .iconst 1, 1), (48, .isub, 1), (49, .putfield 244, 3), (52, .aload_n 0, 1), (53, .aload_n 0, 1), (54, .getfield 104, 3), (57, .aload_n 0, 1), (58, .getfield 244, 3), (61, .iaload, 1), (62, .invokevirtual 252, 3), (65, .goto (-65), 3), (68, .return_, 1)]
set_option maxRecDepth 100000 in
theorem sa_kv231 : ∀ q ∈ sa_k231, decode cX12_drops q.1 = .ok q.2 ∧ sa_ln q.2.1 q.2.2 = true := by decide +kernel
set_option maxRecDepth 100000 in
def sa_k232 : List (Nat × Instr × Nat) := [(0, .aload_n 0, 1), (1, .getfield 104, 3), (4, .aload_n 0, 1), (5, .getfield 244, 3), (8, .iload_n 1, 1), (9, .iastore, 1), (10, .aload_n 0, 1), (11, .dup, 1), (12, .getfield 244, 3), (15, .iconst 1, 1), (16, .iadd, 1), (17, .putfield 244, 3), (20, .return_, 1)]
set_option maxRecDepth 100000 in
theorem sa_kv232 : ∀ q ∈ sa_k232, decode cX12_waitsFor q.1 = .ok q.2 ∧ sa_ln q.2.1 q.2.2 = true := by decide +kernel
set_option maxRecDepth 100000 in
def sa_k233 : List (Nat × Instr × Nat) := [(0, .aload_n 0, 1), (1, .invokevirtual 231, 3), (4, .ifCond .ne 4, 3), (7, .return_, 1), (8, .aload_n 0, 1), (9, .getfield 205, 3), (12, .iconst 2, 1), (13, .if_icmp .ne 32, 3), (16, .aload_n 0, 1), (17, .getfield 215, 3), (20, .iconst 4, 1), (21, .if_icmp .le 8, 3), (24, .aload_n 0, 1), (25, .iconst 2, 1), (26, .invokevirtual 238, 3), (29, .aload_n 0, 1), (30, .iconst 1, 1), (31, .invokevirtual 252, 3), (34, .aload_n 0, 1), (35, .aload_n 0, 1), (36, .getfield 199, 3), (39, .invokevirtual 252, 3), (42, .goto 48, 3), (45, .aload_n 0, 1), (46, .getfield 205, 3), (49, .iconst 1, 1), (50, .if_icmp .ne 35, 3), (53, .aload_n 0, 1), (54, .invokevirtual 255, 3), (57, .istore_n 1, 1), (58, .iload_n 1, 1), (59, .ifCond .lt 8, 3), (62, .iload_n 1, 1), (63, .iconst 5, 1), (64, .if_icmp .le 8, 3), (67, .aload_n 0, 1), (68, .iconst 3, 1), (69, .invokevirtual 238, 3), (72, .aload_n 0, 1), (73, .iconst 2, 1), (74, .invokevirtual 252, 3), (77, .aload_n 0, 1), (78, .iload_n 1, 1), (79, .invokevirtual 252, 3), (82, .goto 8, 3), (85, .aload_n 0, 1), (86, .iconst 1, 1), (87, .invokevirtual 238, 3), (90, .aload_n 0, 1), (91, .invokevirtual 231, 3), (94, .ifCond .eq 7, 3), (97, .aload_n 0, 1), (98, .invokevirtual 235, 3), (101, .return_, 1)]
set_option maxRecDepth 100000 in
theorem sa_kv233 : ∀ q ∈ sa_k233, decode cX12_part q.1 = .ok q.2 ∧ sa_ln q.2.1 q.2.2 = true := by decide +kernel
set_option maxRecDepth 100000 in
def sa_k234 : List (Nat × Instr × Nat) := [(0, .aload_n 0, 1), (1, .getfield 259, 3), (4, .bipush 6, 2), (6, .if_icmp .ge 24, 3), (9, .aload_n 0, 1), (10, .dup, 1), (11, .getfield 259, 3), (14, .iconst 1, 1), (15, .iadd, 1), (16, .putfield 259, 3), (19, .aload_n 0, 1), (20, .getfield 107, 3), (23, .aload_n 0, 1), (24, .getfield 259, 3), (27, .iconst 0, 1), (28, .bastore, 1), (29, .return_, 1), (30, .aload_n 0, 1), (31, .aload_n 0, 1), (32, .getfield 205, 3), (35, .iconst 2, 1), (36, .if_icmp .eq 20, 3), (39, .aload_n 0, 1), (40, .getfield 205, 3), (43, .iconst 1, 1), (44, .if_icmp .eq 12, 3), (47, .aload_n 0, 1), (48, .bipush 40, 2), (50, .invokevirtual 262, 3), (53, .ifCond .eq 7, 3), (56, .iconst 2, 1), (57, .goto 4, 3), (60, .iconst 1, 1), (61, .invokevirtual 238, 3), (64, .return_, 1)]
set_option maxRecDepth 100000 in
theorem sa_kv234 : ∀ q ∈ sa_k234, decode cX12_deeper q.1 = .ok q.2 ∧ sa_ln q.2.1 q.2.2 = true := by decide +kernel
set_option maxRecDepth 100000 in
def sa_k235 : List (Nat × Instr × Nat) := [(0, .iload_n 1, 1), (1, .istore_n 2, 1), (2, .iconst 1, 1), (3, .istore_n 3, 1), (4, .iload_n 3, 1), (5, .ifCond .eq 115, 3), (8, .aload_n 0, 1), (9, .invokevirtual 231, 3), (12, .ifCond .eq 108, 3), (15, .iconst 0, 1), (16, .istore 4, 2), (18, .aload_n 0, 1), (19, .invokevirtual 231, 3), (22, .ifCond .eq 53, 3), (25, .iload_n 2, 1), (26, .ifCond .eq 49, 3), (29, .aload_n 0, 1), (30, .invokevirtual 255, 3), (33, .bipush 15, 2), (35, .if_icmp .ne 40, 3), (38, .iload 4, 2), (40, .bipush 6, 2), (42, .if_icmp .ne 8, 3), (45, .aload_n 0, 1), (46, .iconst 2, 1), (47, .invokevirtual 238, 3), (50, .iinc 4 1, 3), (53, .aload_n 0, 1), (54, .invokevirtual 231, 3), (57, .ifCond .ne 6, 3), (60, .goto (-42), 3), (63, .aload_n 0, 1), (64, .iconst 3, 1), (65, .invokevirtual 265, 3), (68, .aload_n 0, 1), (69, .invokevirtual 235, 3), (72, .goto (-54), 3), (75, .aload_n 0, 1), (76, .invokevirtual 231, 3), (79, .ifCond .eq 16, 3), (82, .aload_n 0, 1), (83, .bipush 40, 2), (85, .invokevirtual 262, 3), (88, .ifCond .eq 7, 3), (91, .iconst 1, 1), (92, .goto 4, 3), (95, .iconst 0, 1), (96, .istore_n 3, 1), (97, .iload_n 3, 1), (98, .ifCond .eq 19, 3), (101, .aload_n 0, 1), (102, .bipush 14, 2), (104, .invokevirtual 265, 3), (107, .aload_n 0, 1), (108, .invokevirtual 235, 3), (111, .aload_n 0, 1), (112, .invokevirtual 268, 3), (115, .iconst 1, 1), (116, .istore_n 2, 1), (117, .goto (-113), 3), (120, .aload_n 0, 1), (121, .invokevirtual 271, 3), (124, .return_, 1)]
set_option maxRecDepth 100000 in
theorem sa_kv235 : ∀ q ∈ sa_k235, decode cX12_operand q.1 = .ok q.2 ∧ sa_ln q.2.1 q.2.2 = true := by decide +kernel
set_option maxRecDepth 100000 in
def sa_k236 : List (Nat × Instr × Nat) := [(0, .aload_n 0, 1), (1, .getfield 244, 3), (4, .iconst 1, 1), (5, .isub, 1), (6, .istore_n 1, 1), (7, .iload_n 1, 1), (8, .ifCond .lt 21, 3), (11, .aload_n 0, 1), (12, .getfield 104, 3), (15, .iload_n 1, 1), (16, .iaload, 1), (17, .invokestatic 247, 3), (20, .ifCond .ne 9, 3), (23, .iinc 1 (-1), 3), (26, .goto (-19), 3), (29, .iload_n 1, 1), (30, .ifCond .lt 7, 3), (33, .iconst 1, 1), (34, .goto 4, 3), (37, .iconst 0, 1), (38, .ireturn, 1)]
set_option maxRecDepth 100000 in
theorem sa_kv236 : ∀ q ∈ sa_k236, decode cX12_isOpened q.1 = .ok q.2 ∧ sa_ln q.2.1 q.2.2 = true := by decide +kernel
set_option maxRecDepth 100000 in
def sa_k237 : List (Nat × Instr × Nat) := [(0, .aload_n 0, 1), (1, .iconst 0, 1), (2, .invokevirtual 274, 3), (5, .aload_n 0, 1), (6, .dup, 1), (7, .getfield 244, 3), (10, .iconst 1, 1), (11, .isub, 1), (12, .putfield 244, 3), (15, .aload_n 0, 1), (16, .dup, 1), (17, .getfield 259, 3), (20, .iconst 1, 1), (21, .isub, 1), (22, .putfield 259, 3), (25, .aload_n 0, 1), (26, .invokevirtual 235, 3), (29, .return_, 1)]
set_option maxRecDepth 100000 in
theorem sa_kv237 : ∀ q ∈ sa_k237, decode cX12_closes q.1 = .ok q.2 ∧ sa_ln q.2.1 q.2.2 = true := by decide +kernel
set_option maxRecDepth 100000 in
def sa_k238 : List (Nat × Instr × Nat) := [(0, .aload_n 0, 1), (1, .invokevirtual 231, 3), (4, .ifCond .ne 4, 3), (7, .return_, 1), (8, .aload_n 0, 1), (9, .iconst 0, 1), (10, .putfield 244, 3), (13, .aload_n 0, 1), (14, .iconst 0, 1), (15, .putfield 259, 3), (18, .aload_n 0, 1), (19, .invokevirtual 268, 3), (22, .aload_n 0, 1), (23, .iconst 1, 1), (24, .invokevirtual 277, 3), (27, .iconst 1, 1), (28, .istore_n 1, 1), (29, .iload_n 1, 1), (30, .ifCond .eq 295, 3), (33, .aload_n 0, 1), (34, .invokevirtual 231, 3), (37, .ifCond .eq 288, 3), (40, .aload_n 0, 1), (41, .invokevirtual 255, 3), (44, .istore_n 2, 1), (45, .iload_n 2, 1), (46, .bipush 13, 2), (48, .if_icmp .eq 9, 3), (51, .iload_n 2, 1), (52, .bipush 14, 2), (54, .if_icmp .ne 55, 3), (57, .aload_n 0, 1), (58, .iload_n 2, 1), (59, .bipush 13, 2), (61, .if_icmp .ne 7, 3), (64, .iconst 2, 1), (65, .goto 4, 3), (68, .iconst 1, 1), (69, .invokevirtual 274, 3), (72, .aload_n 0, 1), (73, .iload_n 2, 1), (74, .bipush 13, 2), (76, .if_icmp .ne 7, 3), (79, .iconst 4, 1), (80, .goto 4, 3), (83, .iconst 5, 1), (84, .invokevirtual 265, 3), (87, .aload_n 0, 1), (88, .getfield 107, 3), (91, .aload_n 0, 1), (92, .getfield 259, 3), (95, .iconst 0, 1), (96, .bastore, 1), (97, .aload_n 0, 1), (98, .invokevirtual 235, 3), (101, .aload_n 0, 1), (102, .iconst 1, 1), (103, .invokevirtual 277, 3), (106, .goto 216, 3), (109, .aload_n 0, 1), (110, .bipush 60, 2), (112, .invokevirtual 262, 3), (115, .ifCond .ne 12, 3), (118, .aload_n 0, 1), (119, .bipush 61, 2), (121, .invokevirtual 262, 3), (124, .ifCond .eq 62, 3), (127, .aload_n 0, 1), (128, .getfield 107, 3), (131, .aload_n 0, 1), (132, .getfield 259, 3), (135, .baload, 1), (136, .ifCond .ne 50, 3), (139, .aload_n 0, 1), (140, .iconst 4, 1), (141, .invokevirtual 274, 3), (144, .aload_n 0, 1), (145, .aload_n 0, 1), (146, .bipush 60, 2), (148, .invokevirtual 262, 3), (151, .ifCond .eq 8, 3), (154, .bipush 6, 2), (156, .goto 5, 3), (159, .bipush 7, 2), (161, .invokevirtual 265, 3), (164, .aload_n 0, 1), (165, .getfield 107, 3), (168, .aload_n 0, 1), (169, .getfield 259, 3), (172, .iconst 1, 1), (173, .bastore, 1), (174, .aload_n 0, 1), (175, .invokevirtual 235, 3), (178, .aload_n 0, 1), (179, .iconst 0, 1), (180, .invokevirtual 277, 3), (183, .goto 139, 3), (186, .aload_n 0, 1), (187, .bipush 43, 2), (189, .invokevirtual 262, 3), (192, .ifCond .ne 12, 3), (195, .aload_n 0, 1), (196, .bipush 45, 2), (198, .invokevirtual 262, 3), (201, .ifCond .eq 40, 3), (204, .aload_n 0, 1), (205, .iconst 5, 1), (206, .invokevirtual 274, 3), (209, .aload_n 0, 1), (210, .aload_n 0, 1), (211, .bipush 43, 2), (213, .invokevirtual 262, 3), (216, .ifCond .eq 8, 3), (219, .bipush 8, 2), (221, .goto 5, 3), (224, .bipush 9, 2), (226, .invokevirtual 265, 3), (229, .aload_n 0, 1), (230, .invokevirtual 235, 3), (233, .aload_n 0, 1), (234, .iconst 0, 1), (235, .invokevirtual 277, 3), (238, .goto 84, 3), (241, .aload_n 0, 1), (242, .bipush 42, 2), (244, .invokevirtual 262, 3), (247, .ifCond .ne 12, 3), (250, .aload_n 0, 1), (251, .bipush 47, 2), (253, .invokevirtual 262, 3), (256, .ifCond .eq 41, 3), (259, .aload_n 0, 1), (260, .bipush 6, 2), (262, .invokevirtual 274, 3), (265, .aload_n 0, 1), (266, .aload_n 0, 1), (267, .bipush 42, 2), (269, .invokevirtual 262, 3), (272, .ifCond .eq 8, 3), (275, .bipush 10, 2), (277, .goto 5, 3), (280, .bipush 11, 2), (282, .invokevirtual 265, 3), (285, .aload_n 0, 1), (286, .invokevirtual 235, 3), (289, .aload_n 0, 1), (290, .iconst 0, 1), (291, .invokevirtual 277, 3), (294, .goto 28, 3), (297, .aload_n 0, 1), (298, .bipush 41, 2), (300, .invokevirtual 262, 3), (303, .ifCond .eq 17, 3), (306, .aload_n 0, 1), (307, .invokevirtual 281, 3), (310, .ifCond .eq 10, 3), (313, .aload_n 0, 1), (314, .invokevirtual 284, 3), (317, .goto 5, 3), (320, .iconst 0, 1), (321, .istore_n 1, 1), (322, .goto (-293), 3), (325, .aload_n 0, 1), (326, .invokevirtual 231, 3), (329, .ifCond .eq 16, 3), (332, .aload_n 0, 1), (333, .getfield 259, 3), (336, .iconst 1, 1), (337, .if_icmp .le 8, 3), (340, .aload_n 0, 1), (341, .iconst 1, 1), (342, .invokevirtual 238, 3), (345, .aload_n 0, 1), (346, .iconst 0, 1), (347, .invokevirtual 274, 3), (350, .aload_n 0, 1), (351, .iconst 0, 1), (352, .invokevirtual 252, 3), (355, .return_, 1)]
set_option maxRecDepth 100000 in
theorem sa_kv238 : ∀ q ∈ sa_k238, decode cX12_expression q.1 = .ok q.2 ∧ sa_ln q.2.1 q.2.2 = true := by decide +kernel
set_option maxRecDepth 100000 in
def sa_k239 : List (Nat × Instr × Nat) := [(0, .iload_n 1, 1), (1, .ifCond .eq 8, 3), (4, .aload_n 0, 1), (5, .iconst 2, 1), (6, .invokevirtual 238, 3), (9, .iload_n 2, 1), (10, .ifCond .eq 8, 3), (13, .aload_n 0, 1), (14, .iconst 5, 1), (15, .invokevirtual 238, 3), (18, .aload_n 0, 1), (19, .invokevirtual 231, 3), (22, .ifCond .ne 5, 3), (25, .iconst 0, 1), (26, .ireturn, 1), (27, .aload_n 0, 1), (28, .invokevirtual 235, 3), (31, .iconst 1, 1), (32, .ireturn, 1)]
set_option maxRecDepth 100000 in
theorem sa_kv239 : ∀ q ∈ sa_k239, decode cX12_begins q.1 = .ok q.2 ∧ sa_ln q.2.1 q.2.2 = true := by decide +kernel
set_option maxRecDepth 100000 in
def sa_k240 : List (Nat × Instr × Nat) := [(0, .aload_n 0, 1), (1, .getfield 287, 3), (4, .istore_n 1, 1), (5, .aload_n 0, 1), (6, .getfield 62, 3), (9, .iload_n 1, 1), (10, .aload_n 0, 1), (11, .iconst 0, 1), (12, .bipush 60, 2), (14, .invokevirtual 290, 3), (17, .iastore, 1), (18, .aload_n 0, 1), (19, .getfield 98, 3), (22, .iconst 3, 1), (23, .iload_n 1, 1), (24, .iadd, 1), (25, .aload_n 0, 1), (26, .iconst 0, 1), (27, .bipush 63, 2), (29, .invokevirtual 290, 3), (32, .iastore, 1), (33, .aload_n 0, 1), (34, .getfield 98, 3), (37, .bipush 9, 2), (39, .iload_n 1, 1), (40, .iadd, 1), (41, .aload_n 0, 1), (42, .iconst 0, 1), (43, .bipush 9, 2), (45, .invokevirtual 290, 3), (48, .iastore, 1), (49, .aload_n 0, 1), (50, .getfield 65, 3), (53, .iload_n 1, 1), (54, .aload_n 0, 1), (55, .iconst 0, 1), (56, .bipush 99, 2), (58, .invokevirtual 290, 3), (61, .iastore, 1), (62, .aload_n 0, 1), (63, .getfield 68, 3), (66, .iload_n 1, 1), (67, .aload_n 0, 1), (68, .iconst 0, 1), (69, .bipush 9, 2), (71, .invokevirtual 290, 3), (74, .iastore, 1), (75, .aload_n 0, 1), (76, .getfield 98, 3), (79, .bipush 15, 2), (81, .iload_n 1, 1), (82, .iadd, 1), (83, .iconst 0, 1), (84, .iastore, 1), (85, .aload_n 0, 1), (86, .getfield 98, 3), (89, .bipush 21, 2), (91, .iload_n 1, 1), (92, .iadd, 1), (93, .iconst 0, 1), (94, .iastore, 1), (95, .aload_n 0, 1), (96, .invokevirtual 231, 3), (99, .ifCond .eq 13, 3), (102, .aload_n 0, 1), (103, .dup, 1), (104, .getfield 287, 3), (107, .iconst 1, 1), (108, .iadd, 1), (109, .putfield 287, 3), (112, .return_, 1)]
set_option maxRecDepth 100000 in
theorem sa_kv240 : ∀ q ∈ sa_k240, decode cX12_readsCreature q.1 = .ok q.2 ∧ sa_ln q.2.1 q.2.2 = true := by decide +kernel
set_option maxRecDepth 100000 in
def sa_k241 : List (Nat × Instr × Nat) := [(0, .aload_n 0, 1), (1, .getfield 294, 3), (4, .istore_n 1, 1), (5, .aload_n 0, 1), (6, .getfield 71, 3), (9, .iload_n 1, 1), (10, .aload_n 0, 1), (11, .iconst 0, 1), (12, .bipush 63, 2), (14, .invokevirtual 290, 3), (17, .iastore, 1), (18, .aload_n 0, 1), (19, .getfield 74, 3), (22, .iload_n 1, 1), (23, .aload_n 0, 1), (24, .iconst 0, 1), (25, .bipush 63, 2), (27, .invokevirtual 290, 3), (30, .iastore, 1), (31, .aload_n 0, 1), (32, .getfield 77, 3), (35, .iload_n 1, 1), (36, .aload_n 0, 1), (37, .iconst 0, 1), (38, .bipush 63, 2), (40, .invokevirtual 290, 3), (43, .iastore, 1), (44, .aload_n 0, 1), (45, .getfield 80, 3), (48, .iload_n 1, 1), (49, .aload_n 0, 1), (50, .iconst 0, 1), (51, .bipush 63, 2), (53, .invokevirtual 290, 3), (56, .iastore, 1), (57, .aload_n 0, 1), (58, .getfield 83, 3), (61, .iload_n 1, 1), (62, .aload_n 0, 1), (63, .iconst 0, 1), (64, .bipush 20, 2), (66, .invokevirtual 290, 3), (69, .iastore, 1), (70, .aload_n 0, 1), (71, .getfield 86, 3), (74, .iload_n 1, 1), (75, .aload_n 0, 1), (76, .iconst 0, 1), (77, .bipush 20, 2), (79, .invokevirtual 290, 3), (82, .iastore, 1), (83, .aload_n 0, 1), (84, .invokevirtual 231, 3), (87, .ifCond .eq 13, 3), (90, .aload_n 0, 1), (91, .dup, 1), (92, .getfield 294, 3), (95, .iconst 1, 1), (96, .iadd, 1), (97, .putfield 294, 3), (100, .return_, 1)]
set_option maxRecDepth 100000 in
theorem sa_kv241 : ∀ q ∈ sa_k241, decode cX12_readsTrick q.1 = .ok q.2 ∧ sa_ln q.2.1 q.2.2 = true := by decide +kernel
set_option maxRecDepth 100000 in
def sa_k242 : List (Nat × Instr × Nat) := [(0, .aload_n 0, 1), (1, .getfield 89, 3), (4, .aload_n 0, 1), (5, .getfield 297, 3), (8, .aload_n 0, 1), (9, .iconst 0, 1), (10, .bipush 60, 2), (12, .invokevirtual 290, 3), (15, .iastore, 1), (16, .aload_n 0, 1), (17, .getfield 92, 3), (20, .aload_n 0, 1), (21, .getfield 297, 3), (24, .aload_n 0, 1), (25, .iconst 0, 1), (26, .sipush 999, 3), (29, .invokevirtual 290, 3), (32, .iastore, 1), (33, .aload_n 0, 1), (34, .invokevirtual 231, 3), (37, .ifCond .eq 13, 3), (40, .aload_n 0, 1), (41, .dup, 1), (42, .getfield 297, 3), (45, .iconst 1, 1), (46, .iadd, 1), (47, .putfield 297, 3), (50, .return_, 1)]
set_option maxRecDepth 100000 in
theorem sa_kv242 : ∀ q ∈ sa_k242, decode cX12_readsHunter q.1 = .ok q.2 ∧ sa_ln q.2.1 q.2.2 = true := by decide +kernel
set_option maxRecDepth 100000 in
def sa_k243 : List (Nat × Instr × Nat) := [(0, .aload_n 0, 1), (1, .invokevirtual 255, 3), (4, .istore_n 1, 1), (5, .iload_n 1, 1), (6, .bipush 6, 2), (8, .if_icmp .ne 32, 3), (11, .aload_n 0, 1), (12, .aload_n 0, 1), (13, .getfield 287, 3), (16, .bipush 6, 2), (18, .if_icmp .ne 7, 3), (21, .iconst 1, 1), (22, .goto 4, 3), (25, .iconst 0, 1), (26, .iconst 0, 1), (27, .invokevirtual 300, 3), (30, .ifCond .eq 275, 3), (33, .aload_n 0, 1), (34, .invokevirtual 304, 3), (37, .goto 268, 3), (40, .iload_n 1, 1), (41, .bipush 7, 2), (43, .if_icmp .ne 32, 3), (46, .aload_n 0, 1), (47, .aload_n 0, 1), (48, .getfield 294, 3), (51, .bipush 8, 2), (53, .if_icmp .ne 7, 3), (56, .iconst 1, 1), (57, .goto 4, 3), (60, .iconst 0, 1), (61, .iconst 0, 1), (62, .invokevirtual 300, 3), (65, .ifCond .eq 240, 3), (68, .aload_n 0, 1), (69, .invokevirtual 307, 3), (72, .goto 233, 3), (75, .iload_n 1, 1), (76, .bipush 8, 2), (78, .if_icmp .ne 32, 3), (81, .aload_n 0, 1), (82, .aload_n 0, 1), (83, .getfield 297, 3), (86, .bipush 6, 2), (88, .if_icmp .ne 7, 3), (91, .iconst 1, 1), (92, .goto 4, 3), (95, .iconst 0, 1), (96, .iconst 0, 1), (97, .invokevirtual 300, 3), (100, .ifCond .eq 205, 3), (103, .aload_n 0, 1), (104, .invokevirtual 310, 3), (107, .goto 198, 3), (110, .iload_n 1, 1), (111, .bipush 9, 2), (113, .if_icmp .ne 62, 3), (116, .aload_n 0, 1), (117, .aload_n 0, 1), (118, .getfield 313, 3), (121, .bipush 8, 2), (123, .if_icmp .ne 7, 3), (126, .iconst 1, 1), (127, .goto 4, 3), (130, .iconst 0, 1), (131, .iconst 0, 1), (132, .invokevirtual 300, 3), (135, .ifCond .eq 170, 3), (138, .aload_n 0, 1), (139, .getfield 95, 3), (142, .aload_n 0, 1), (143, .getfield 313, 3), (146, .aload_n 0, 1), (147, .iconst 0, 1), (148, .sipush 1023, 3), (151, .invokevirtual 290, 3), (154, .iastore, 1), (155, .aload_n 0, 1), (156, .invokevirtual 231, 3), (159, .ifCond .eq 146, 3), (162, .aload_n 0, 1), (163, .dup, 1), (164, .getfield 313, 3), (167, .iconst 1, 1), (168, .iadd, 1), (169, .putfield 313, 3), (172, .goto 133, 3), (175, .iload_n 1, 1), (176, .bipush 10, 2), (178, .if_icmp .ne 39, 3), (181, .aload_n 0, 1), (182, .iconst 0, 1), (183, .aload_n 0, 1), (184, .getfield 316, 3), (187, .iconst (-1), 1), (188, .if_icmp .eq 7, 3), (191, .iconst 1, 1), (192, .goto 4, 3), (195, .iconst 0, 1), (196, .invokevirtual 300, 3), (199, .ifCond .eq 106, 3), (202, .aload_n 0, 1), (203, .aload_n 0, 1), (204, .iconst 0, 1), (205, .sipush 999, 3), (208, .invokevirtual 290, 3), (211, .putfield 316, 3), (214, .goto 91, 3), (217, .iload_n 1, 1), (218, .bipush 11, 2), (220, .if_icmp .ne 38, 3), (223, .aload_n 0, 1), (224, .iconst 0, 1), (225, .aload_n 0, 1), (226, .getfield 319, 3), (229, .iconst (-1), 1), (230, .if_icmp .eq 7, 3), (233, .iconst 1, 1), (234, .goto 4, 3), (237, .iconst 0, 1), (238, .invokevirtual 300, 3), (241, .ifCond .eq 64, 3), (244, .aload_n 0, 1), (245, .aload_n 0, 1), (246, .iconst 1, 1), (247, .bipush 30, 2), (249, .invokevirtual 290, 3), (252, .putfield 319, 3), (255, .goto 50, 3), (258, .iload_n 1, 1), (259, .bipush 12, 2), (261, .if_icmp .ne 39, 3), (264, .aload_n 0, 1), (265, .iconst 0, 1), (266, .aload_n 0, 1), (267, .getfield 322, 3), (270, .iconst (-1), 1), (271, .if_icmp .eq 7, 3), (274, .iconst 1, 1), (275, .goto 4, 3), (278, .iconst 0, 1), (279, .invokevirtual 300, 3), (282, .ifCond .eq 23, 3), (285, .aload_n 0, 1), (286, .aload_n 0, 1), (287, .getfield 241, 3), (290, .putfield 322, 3), (293, .aload_n 0, 1), (294, .invokevirtual 325, 3), (297, .goto 8, 3), (300, .aload_n 0, 1), (301, .iconst 1, 1), (302, .invokevirtual 238, 3), (305, .aload_n 0, 1), (306, .aload_n 0, 1), (307, .bipush 59, 2), (309, .invokevirtual 262, 3), (312, .invokevirtual 328, 3), (315, .return_, 1)]
set_option maxRecDepth 100000 in
theorem sa_kv243 : ∀ q ∈ sa_k243, decode cX12_line q.1 = .ok q.2 ∧ sa_ln q.2.1 q.2.2 = true := by decide +kernel
end
section
set_option maxRecDepth 100000 in
def sa_k244 : List (Nat × Instr × Nat) := [(0, .aload_n 0, 1), (1, .iconst 0, 1), (2, .putfield 172, 3), (5, .aload_n 0, 1), (6, .iload_n 1, 1), (7, .ifCond .lt 15, 3), (10, .iload_n 1, 1), (11, .aload_n 0, 1), (12, .getfield 175, 3), (15, .if_icmp .gt 7, 3), (18, .iconst 1, 1), (19, .goto 4, 3), (22, .iconst 0, 1), (23, .iconst 1, 1), (24, .invokevirtual 331, 3), (27, .ifCond .ne 5, 3), (30, .iconst 0, 1), (31, .ireturn, 1), (32, .aload_n 0, 1), (33, .iconst 0, 1), (34, .putfield 175, 3), (37, .aload_n 0, 1), (38, .iconst (-1), 1), (39, .putfield 56, 3), (42, .aload_n 0, 1), (43, .iconst 0, 1), (44, .putfield 228, 3), (47, .aload_n 0, 1), (48, .iload_n 1, 1), (49, .putfield 182, 3), (52, .aload_n 0, 1), (53, .iconst 0, 1), (54, .putfield 185, 3), (57, .aload_n 0, 1), (58, .iconst 0, 1), (59, .putfield 287, 3), (62, .aload_n 0, 1), (63, .iconst 0, 1), (64, .putfield 294, 3), (67, .aload_n 0, 1), (68, .iconst 0, 1), (69, .putfield 297, 3), (72, .aload_n 0, 1), (73, .iconst 0, 1), (74, .putfield 313, 3), (77, .aload_n 0, 1), (78, .iconst (-1), 1), (79, .putfield 316, 3), (82, .aload_n 0, 1), (83, .iconst (-1), 1), (84, .putfield 319, 3), (87, .aload_n 0, 1), (88, .iconst (-1), 1), (89, .putfield 322, 3), (92, .aload_n 0, 1), (93, .getfield 98, 3), (96, .iconst 1, 1), (97, .iconst 0, 1), (98, .iastore, 1), (99, .aload_n 0, 1), (100, .getfield 98, 3), (103, .iconst 2, 1), (104, .iconst (-1), 1), (105, .iastore, 1), (106, .aload_n 0, 1), (107, .iconst 0, 1), (108, .putfield 241, 3), (111, .aload_n 0, 1), (112, .invokevirtual 235, 3), (115, .aload_n 0, 1), (116, .invokevirtual 231, 3), (119, .ifCond .eq 17, 3), (122, .aload_n 0, 1), (123, .getfield 205, 3), (126, .ifCond .eq 10, 3), (129, .aload_n 0, 1), (130, .invokevirtual 335, 3), (133, .goto (-18), 3), (136, .aload_n 0, 1), (137, .invokevirtual 231, 3), (140, .ifCond .ne 18, 3), (143, .aload_n 0, 1), (144, .getfield 59, 3), (147, .iconst 0, 1), (148, .dup2, 1), (149, .iaload, 1), (150, .iconst 1, 1), (151, .iadd, 1), (152, .iastore, 1), (153, .aload_n 0, 1), (154, .getfield 228, 3), (157, .ireturn, 1), (158, .aload_n 0, 1), (159, .aload_n 0, 1), (160, .getfield 287, 3), (163, .putfield 338, 3), (166, .aload_n 0, 1), (167, .aload_n 0, 1), (168, .getfield 294, 3), (171, .putfield 341, 3), (174, .aload_n 0, 1), (175, .aload_n 0, 1), (176, .getfield 297, 3), (179, .putfield 344, 3), (182, .aload_n 0, 1), (183, .aload_n 0, 1), (184, .getfield 313, 3), (187, .putfield 347, 3), (190, .aload_n 0, 1), (191, .aload_n 0, 1), (192, .getfield 319, 3), (195, .putfield 350, 3), (198, .aload_n 0, 1), (199, .aload_n 0, 1), (200, .getfield 322, 3), (203, .putfield 9, 3), (206, .aload_n 0, 1), (207, .getfield 98, 3), (210, .iconst 0, 1), (211, .aload_n 0, 1), (212, .getfield 316, 3), (215, .iconst (-1), 1), (216, .if_icmp .ne 8, 3), (219, .bipush 50, 2), (221, .goto 7, 3), (224, .aload_n 0, 1), (225, .getfield 316, 3), (228, .iastore, 1), (229, .aload_n 0, 1), (230, .aload_n 0, 1), (231, .getfield 62, 3), (234, .aload_n 0, 1), (235, .getfield 13, 3), (238, .invokevirtual 353, 3), (241, .aload_n 0, 1), (242, .aload_n 0, 1), (243, .getfield 65, 3), (246, .aload_n 0, 1), (247, .getfield 17, 3), (250, .invokevirtual 353, 3), (253, .aload_n 0, 1), (254, .aload_n 0, 1), (255, .getfield 68, 3), (258, .aload_n 0, 1), (259, .getfield 20, 3), (262, .invokevirtual 353, 3), (265, .aload_n 0, 1), (266, .aload_n 0, 1), (267, .getfield 71, 3), (270, .aload_n 0, 1), (271, .getfield 23, 3), (274, .invokevirtual 353, 3), (277, .aload_n 0, 1), (278, .aload_n 0, 1), (279, .getfield 74, 3), (282, .aload_n 0, 1), (283, .getfield 26, 3), (286, .invokevirtual 353, 3), (289, .aload_n 0, 1), (290, .aload_n 0, 1), (291, .getfield 77, 3), (294, .aload_n 0, 1), (295, .getfield 29, 3), (298, .invokevirtual 353, 3), (301, .aload_n 0, 1), (302, .aload_n 0, 1), (303, .getfield 80, 3), (306, .aload_n 0, 1), (307, .getfield 32, 3), (310, .invokevirtual 353, 3), (313, .aload_n 0, 1), (314, .aload_n 0, 1), (315, .getfield 83, 3), (318, .aload_n 0, 1), (319, .getfield 35, 3), (322, .invokevirtual 353, 3), (325, .aload_n 0, 1), (326, .aload_n 0, 1), (327, .getfield 86, 3), (330, .aload_n 0, 1), (331, .getfield 38, 3), (334, .invokevirtual 353, 3), (337, .aload_n 0, 1), (338, .aload_n 0, 1), (339, .getfield 89, 3), (342, .aload_n 0, 1), (343, .getfield 41, 3), (346, .invokevirtual 353, 3), (349, .aload_n 0, 1), (350, .aload_n 0, 1), (351, .getfield 92, 3), (354, .aload_n 0, 1), (355, .getfield 44, 3), (358, .invokevirtual 353, 3), (361, .aload_n 0, 1), (362, .aload_n 0, 1), (363, .getfield 95, 3), (366, .aload_n 0, 1), (367, .getfield 47, 3), (370, .invokevirtual 353, 3), (373, .aload_n 0, 1), (374, .aload_n 0, 1), (375, .getfield 101, 3), (378, .aload_n 0, 1), (379, .getfield 50, 3), (382, .invokevirtual 353, 3), (385, .iconst 0, 1), (386, .istore_n 2, 1), (387, .iload_n 2, 1), (388, .bipush 27, 2), (390, .if_icmp .ge 21, 3), (393, .aload_n 0, 1), (394, .getfield 111, 3), (397, .iload_n 2, 1), (398, .aload_n 0, 1), (399, .getfield 98, 3), (402, .iload_n 2, 1), (403, .iaload, 1), (404, .iastore, 1), (405, .iinc 2 1, 3), (408, .goto (-21), 3), (411, .aload_n 0, 1), (412, .iconst 0, 1), (413, .putfield 357, 3), (416, .aload_n 0, 1), (417, .iconst 0, 1), (418, .putfield 360, 3), (421, .aload_n 0, 1), (422, .iconst 0, 1), (423, .putfield 363, 3), (426, .iconst 0, 1), (427, .ireturn, 1)]
set_option maxRecDepth 100000 in
theorem sa_kv244 : ∀ q ∈ sa_k244, decode cX12_sky q.1 = .ok q.2 ∧ sa_ln q.2.1 q.2.2 = true := by decide +kernel
set_option maxRecDepth 100000 in
def sa_k245 : List (Nat × Instr × Nat) := [(0, .aload_n 0, 1), (1, .iconst 0, 1), (2, .putfield 172, 3), (5, .aload_n 0, 1), (6, .getfield 56, 3), (9, .ireturn, 1)]
set_option maxRecDepth 100000 in
theorem sa_kv245 : ∀ q ∈ sa_k245, decode cX12_fault q.1 = .ok q.2 ∧ sa_ln q.2.1 q.2.2 = true := by decide +kernel
set_option maxRecDepth 100000 in
def sa_k246 : List (Nat × Instr × Nat) := [(0, .aload_n 0, 1), (1, .getfield 357, 3), (4, .bipush 40, 2), (6, .if_icmp .ne 44, 3), (9, .bipush 27, 2), (11, .istore_n 1, 1), (12, .iload_n 1, 1), (13, .sipush 1080, 3), (16, .if_icmp .ge 24, 3), (19, .aload_n 0, 1), (20, .getfield 114, 3), (23, .iload_n 1, 1), (24, .bipush 27, 2), (26, .isub, 1), (27, .aload_n 0, 1), (28, .getfield 114, 3), (31, .iload_n 1, 1), (32, .iaload, 1), (33, .iastore, 1), (34, .iinc 1 1, 3), (37, .goto (-25), 3), (40, .aload_n 0, 1), (41, .dup, 1), (42, .getfield 357, 3), (45, .iconst 1, 1), (46, .isub, 1), (47, .putfield 357, 3), (50, .iconst 0, 1), (51, .istore_n 1, 1), (52, .iload_n 1, 1), (53, .bipush 27, 2), (55, .if_icmp .ge 29, 3), (58, .aload_n 0, 1), (59, .getfield 114, 3), (62, .bipush 27, 2), (64, .aload_n 0, 1), (65, .getfield 357, 3), (68, .imul, 1), (69, .iload_n 1, 1), (70, .iadd, 1), (71, .aload_n 0, 1), (72, .getfield 111, 3), (75, .iload_n 1, 1), (76, .iaload, 1), (77, .iastore, 1), (78, .iinc 1 1, 3), (81, .goto (-29), 3), (84, .aload_n 0, 1), (85, .dup, 1), (86, .getfield 357, 3), (89, .iconst 1, 1), (90, .iadd, 1), (91, .putfield 357, 3), (94, .return_, 1)]
set_option maxRecDepth 100000 in
theorem sa_kv246 : ∀ q ∈ sa_k246, decode cX12_keeps q.1 = .ok q.2 ∧ sa_ln q.2.1 q.2.2 = true := by decide +kernel
set_option maxRecDepth 100000 in
def sa_k247 : List (Nat × Instr × Nat) := [(0, .aload_n 0, 1), (1, .getfield 59, 3), (4, .iload_n 1, 1), (5, .dup2, 1), (6, .iaload, 1), (7, .iconst 1, 1), (8, .iadd, 1), (9, .iastore, 1), (10, .iconst (-1), 1), (11, .ireturn, 1)]
set_option maxRecDepth 100000 in
theorem sa_kv247 : ∀ q ∈ sa_k247, decode cX12_refuses q.1 = .ok q.2 ∧ sa_ln q.2.1 q.2.2 = true := by decide +kernel
set_option maxRecDepth 100000 in
def sa_k248 : List (Nat × Instr × Nat) := [(0, .aload_n 0, 1), (1, .iconst 0, 1), (2, .putfield 172, 3), (5, .aload_n 0, 1), (6, .getfield 357, 3), (9, .ifCond .ne 5, 3), (12, .iconst (-1), 1), (13, .ireturn, 1), (14, .aload_n 0, 1), (15, .dup, 1), (16, .getfield 357, 3), (19, .iconst 1, 1), (20, .isub, 1), (21, .putfield 357, 3), (24, .iconst 0, 1), (25, .istore_n 1, 1), (26, .iload_n 1, 1), (27, .bipush 27, 2), (29, .if_icmp .ge 29, 3), (32, .aload_n 0, 1), (33, .getfield 111, 3), (36, .iload_n 1, 1), (37, .aload_n 0, 1), (38, .getfield 114, 3), (41, .bipush 27, 2), (43, .aload_n 0, 1), (44, .getfield 357, 3), (47, .imul, 1), (48, .iload_n 1, 1), (49, .iadd, 1), (50, .iaload, 1), (51, .iastore, 1), (52, .iinc 1 1, 3), (55, .goto (-29), 3), (58, .aload_n 0, 1), (59, .getfield 357, 3), (62, .ireturn, 1)]
set_option maxRecDepth 100000 in
theorem sa_kv248 : ∀ q ∈ sa_k248, decode cX12_undo q.1 = .ok q.2 ∧ sa_ln q.2.1 q.2.2 = true := by decide +kernel
set_option maxRecDepth 100000 in
def sa_k249 : List (Nat × Instr × Nat) := [(0, .iconst 0, 1), (1, .istore_n 1, 1), (2, .iload_n 1, 1), (3, .bipush 27, 2), (5, .if_icmp .ge 24, 3), (8, .aload_n 0, 1), (9, .getfield 111, 3), (12, .bipush 27, 2), (14, .iload_n 1, 1), (15, .iadd, 1), (16, .aload_n 0, 1), (17, .getfield 111, 3), (20, .iload_n 1, 1), (21, .iaload, 1), (22, .iastore, 1), (23, .iinc 1 1, 3), (26, .goto (-24), 3), (29, .return_, 1)]
set_option maxRecDepth 100000 in
theorem sa_kv249 : ∀ q ∈ sa_k249, decode cX12_tries q.1 = .ok q.2 ∧ sa_ln q.2.1 q.2.2 = true := by decide +kernel
set_option maxRecDepth 100000 in
def sa_k250 : List (Nat × Instr × Nat) := [(0, .iload_n 0, 1), (1, .tableswitch 105 4 10 #[43, 57, 71, 82, 93, 97, 101], 43), (44, .iload_n 1, 1), (45, .ifCond .eq 11, 3), (48, .iload_n 2, 1), (49, .ifCond .eq 7, 3), (52, .iconst 1, 1), (53, .goto 4, 3), (56, .iconst 0, 1), (57, .ireturn, 1), (58, .iload_n 1, 1), (59, .ifCond .ne 7, 3), (62, .iload_n 2, 1), (63, .ifCond .eq 7, 3), (66, .iconst 1, 1), (67, .goto 4, 3), (70, .iconst 0, 1), (71, .ireturn, 1), (72, .iload_n 1, 1), (73, .iload_n 2, 1), (74, .if_icmp .ge 7, 3), (77, .iconst 1, 1), (78, .goto 4, 3), (81, .iconst 0, 1), (82, .ireturn, 1), (83, .iload_n 1, 1), (84, .iload_n 2, 1), (85, .if_icmp .ne 7, 3), (88, .iconst 1, 1), (89, .goto 4, 3), (92, .iconst 0, 1), (93, .ireturn, 1), (94, .iload_n 1, 1), (95, .iload_n 2, 1), (96, .iadd, 1), (97, .ireturn, 1), (98, .iload_n 1, 1), (99, .iload_n 2, 1), (100, .isub, 1), (101, .ireturn, 1), (102, .iload_n 1, 1), (103, .iload_n 2, 1), (104, .imul, 1), (105, .ireturn, 1), (106, .iload_n 2, 1), (107, .ifCond .ne 7, 3), (110, .iconst 0, 1), (111, .goto 6, 3), (114, .iload_n 1, 1), (115, .iload_n 2, 1), (116, .idiv, 1), (117, .ireturn, 1)]
set_option maxRecDepth 100000 in
theorem sa_kv250 : ∀ q ∈ sa_k250, decode cX12_works q.1 = .ok q.2 ∧ sa_ln q.2.1 q.2.2 = true := by decide +kernel
set_option maxRecDepth 100000 in
def sa_k251 : List (Nat × Instr × Nat) := [(0, .iconst 0, 1), (1, .istore_n 2, 1), (2, .iload_n 1, 1), (3, .istore_n 3, 1), (4, .aload_n 0, 1), (5, .getfield 50, 3), (8, .iload_n 3, 1), (9, .iaload, 1), (10, .ifCond .eq 133, 3), (13, .aload_n 0, 1), (14, .getfield 50, 3), (17, .iload_n 3, 1), (18, .iaload, 1), (19, .istore 4, 2), (21, .iinc 3 1, 3), (24, .iload 4, 2), (26, .iconst 1, 1), (27, .if_icmp .eq 9, 3), (30, .iload 4, 2), (32, .iconst 2, 1), (33, .if_icmp .ne 44, 3), (36, .aload_n 0, 1), (37, .getfield 120, 3), (40, .iload_n 2, 1), (41, .iload 4, 2), (43, .iconst 1, 1), (44, .if_icmp .ne 12, 3), (47, .aload_n 0, 1), (48, .getfield 50, 3), (51, .iload_n 3, 1), (52, .iaload, 1), (53, .goto 14, 3), (56, .aload_n 0, 1), (57, .getfield 117, 3), (60, .aload_n 0, 1), (61, .getfield 50, 3), (64, .iload_n 3, 1), (65, .iaload, 1), (66, .iaload, 1), (67, .iastore, 1), (68, .iinc 3 1, 3), (71, .iinc 2 1, 3), (74, .goto 66, 3), (77, .iload 4, 2), (79, .iconst 3, 1), (80, .if_icmp .ne 30, 3), (83, .aload_n 0, 1), (84, .getfield 120, 3), (87, .iload_n 2, 1), (88, .iconst 1, 1), (89, .isub, 1), (90, .aload_n 0, 1), (91, .getfield 120, 3), (94, .iload_n 2, 1), (95, .iconst 1, 1), (96, .isub, 1), (97, .iaload, 1), (98, .ifCond .ne 7, 3), (101, .iconst 1, 1), (102, .goto 4, 3), (105, .iconst 0, 1), (106, .iastore, 1), (107, .goto 33, 3), (110, .iinc 2 (-1), 3), (113, .aload_n 0, 1), (114, .getfield 120, 3), (117, .iload_n 2, 1), (118, .iconst 1, 1), (119, .isub, 1), (120, .iload 4, 2), (122, .aload_n 0, 1), (123, .getfield 120, 3), (126, .iload_n 2, 1), (127, .iconst 1, 1), (128, .isub, 1), (129, .iaload, 1), (130, .aload_n 0, 1), (131, .getfield 120, 3), (134, .iload_n 2, 1), (135, .iaload, 1), (136, .invokestatic 367, 3), (139, .iastore, 1), (140, .goto (-136), 3), (143, .aload_n 0, 1), (144, .getfield 120, 3), (147, .iconst 0, 1), (148, .iaload, 1), (149, .ireturn, 1)]
set_option maxRecDepth 100000 in
theorem sa_kv251 : ∀ q ∈ sa_k251, decode cX12_reckons q.1 = .ok q.2 ∧ sa_ln q.2.1 q.2.2 = true := by decide +kernel
set_option maxRecDepth 100000 in
def sa_k252 : List (Nat × Instr × Nat) := [(0, .iconst 0, 1), (1, .istore_n 3, 1), (2, .iconst 0, 1), (3, .istore 4, 2), (5, .iload 4, 2), (7, .aload_n 0, 1), (8, .getfield 338, 3), (11, .if_icmp .ge 36, 3), (14, .iload_n 3, 1), (15, .aload_n 0, 1), (16, .getfield 111, 3), (19, .iload_n 1, 1), (20, .bipush 21, 2), (22, .iadd, 1), (23, .iload 4, 2), (25, .iadd, 1), (26, .iaload, 1), (27, .iload_n 2, 1), (28, .if_icmp .ne 10, 3), (31, .iconst 1, 1), (32, .iload 4, 2), (34, .ishl, 1), (35, .goto 4, 3), (38, .iconst 0, 1), (39, .ior, 1), (40, .istore_n 3, 1), (41, .iinc 4 1, 3), (44, .goto (-39), 3), (47, .iload_n 3, 1), (48, .ireturn, 1)]
set_option maxRecDepth 100000 in
theorem sa_kv252 : ∀ q ∈ sa_k252, decode cX12_those q.1 = .ok q.2 ∧ sa_ln q.2.1 q.2.2 = true := by decide +kernel
set_option maxRecDepth 100000 in
def sa_k253 : List (Nat × Instr × Nat) := [(0, .iconst 0, 1), (1, .istore_n 2, 1), (2, .iconst 0, 1), (3, .istore_n 3, 1), (4, .iload_n 3, 1), (5, .aload_n 0, 1), (6, .getfield 338, 3), (9, .if_icmp .ge 31, 3), (12, .iload_n 2, 1), (13, .iload_n 1, 1), (14, .iload_n 3, 1), (15, .ishr, 1), (16, .iconst 1, 1), (17, .iand, 1), (18, .iconst 1, 1), (19, .if_icmp .ne 12, 3), (22, .aload_n 0, 1), (23, .getfield 20, 3), (26, .iload_n 3, 1), (27, .iaload, 1), (28, .goto 4, 3), (31, .iconst 0, 1), (32, .iadd, 1), (33, .istore_n 2, 1), (34, .iinc 3 1, 3), (37, .goto (-33), 3), (40, .iload_n 2, 1), (41, .ireturn, 1)]
set_option maxRecDepth 100000 in
theorem sa_kv253 : ∀ q ∈ sa_k253, decode cX12_helpOf q.1 = .ok q.2 ∧ sa_ln q.2.1 q.2.2 = true := by decide +kernel
set_option maxRecDepth 100000 in
def sa_k254 : List (Nat × Instr × Nat) := [(0, .aload_n 0, 1), (1, .getfield 9, 3), (4, .iconst (-1), 1), (5, .if_icmp .ne 25, 3), (8, .iload 4, 2), (10, .aload_n 0, 1), (11, .getfield 13, 3), (14, .iload_n 1, 1), (15, .iaload, 1), (16, .if_icmp .lt 12, 3), (19, .iload 4, 2), (21, .ifCond .eq 7, 3), (24, .iconst 1, 1), (25, .goto 4, 3), (28, .iconst 0, 1), (29, .ireturn, 1), (30, .aload_n 0, 1), (31, .getfield 117, 3), (34, .iconst 0, 1), (35, .iload 4, 2), (37, .iastore, 1), (38, .aload_n 0, 1), (39, .getfield 117, 3), (42, .iconst 1, 1), (43, .aload_n 0, 1), (44, .getfield 13, 3), (47, .iload_n 1, 1), (48, .iaload, 1), (49, .iastore, 1), (50, .aload_n 0, 1), (51, .getfield 117, 3), (54, .iconst 2, 1), (55, .iload_n 2, 1), (56, .iastore, 1), (57, .aload_n 0, 1), (58, .getfield 117, 3), (61, .iconst 3, 1), (62, .iload_n 3, 1), (63, .invokestatic 371, 3), (66, .iastore, 1), (67, .aload_n 0, 1), (68, .getfield 117, 3), (71, .iconst 4, 1), (72, .aload_n 0, 1), (73, .getfield 17, 3), (76, .iload_n 1, 1), (77, .iaload, 1), (78, .iastore, 1), (79, .aload_n 0, 1), (80, .getfield 117, 3), (83, .iconst 5, 1), (84, .iload 5, 2), (86, .iastore, 1), (87, .aload_n 0, 1), (88, .aload_n 0, 1), (89, .getfield 9, 3), (92, .invokevirtual 374, 3), (95, .ifCond .le 7, 3), (98, .iconst 1, 1), (99, .goto 4, 3), (102, .iconst 0, 1), (103, .ireturn, 1)]
set_option maxRecDepth 100000 in
theorem sa_kv254 : ∀ q ∈ sa_k254, decode cX12_isBound q.1 = .ok q.2 ∧ sa_ln q.2.1 q.2.2 = true := by decide +kernel
set_option maxRecDepth 100000 in
def sa_k255 : List (Nat × Instr × Nat) := [(0, .iload_n 2, 1), (1, .aload_n 0, 1), (2, .getfield 23, 3), (5, .iload_n 1, 1), (6, .iaload, 1), (7, .iand, 1), (8, .aload_n 0, 1), (9, .getfield 23, 3), (12, .iload_n 1, 1), (13, .iaload, 1), (14, .if_icmp .ne 18, 3), (17, .iload_n 2, 1), (18, .aload_n 0, 1), (19, .getfield 26, 3), (22, .iload_n 1, 1), (23, .iaload, 1), (24, .iand, 1), (25, .ifCond .ne 7, 3), (28, .iconst 1, 1), (29, .goto 4, 3), (32, .iconst 0, 1), (33, .ireturn, 1)]
set_option maxRecDepth 100000 in
theorem sa_kv255 : ∀ q ∈ sa_k255, decode cX12_doesWork q.1 = .ok q.2 ∧ sa_ln q.2.1 q.2.2 = true := by decide +kernel
set_option maxRecDepth 100000 in
def sa_k256 : List (Nat × Instr × Nat) := [(0, .iload_n 2, 1), (1, .aload_n 0, 1), (2, .getfield 29, 3), (5, .iload_n 1, 1), (6, .iaload, 1), (7, .ior, 1), (8, .aload_n 0, 1), (9, .getfield 32, 3), (12, .iload_n 1, 1), (13, .iaload, 1), (14, .iconst (-1), 1), (15, .ixor, 1), (16, .iand, 1), (17, .ireturn, 1)]
set_option maxRecDepth 100000 in
theorem sa_kv256 : ∀ q ∈ sa_k256, decode cX12_believes q.1 = .ok q.2 ∧ sa_ln q.2.1 q.2.2 = true := by decide +kernel
set_option maxRecDepth 100000 in
def sa_k257 : List (Nat × Instr × Nat) := [(0, .aload_n 0, 1), (1, .getfield 35, 3), (4, .iload_n 1, 1), (5, .iaload, 1), (6, .ifCond .ne 7, 3), (9, .iload_n 2, 1), (10, .goto 18, 3), (13, .bipush 60, 2), (15, .iload_n 2, 1), (16, .aload_n 0, 1), (17, .getfield 35, 3), (20, .iload_n 1, 1), (21, .iaload, 1), (22, .iadd, 1), (23, .iload_n 3, 1), (24, .iadd, 1), (25, .invokestatic 377, 3), (28, .ireturn, 1)]
set_option maxRecDepth 100000 in
theorem sa_kv257 : ∀ q ∈ sa_k257, decode cX12_corded q.1 = .ok q.2 ∧ sa_ln q.2.1 q.2.2 = true := by decide +kernel
set_option maxRecDepth 100000 in
def sa_k258 : List (Nat × Instr × Nat) := [(0, .aload_n 0, 1), (1, .aload_n 0, 1), (2, .iload_n 1, 1), (3, .iconst 1, 1), (4, .invokevirtual 380, 3), (7, .invokevirtual 383, 3), (10, .istore 4, 2), (12, .aload_n 0, 1), (13, .getfield 111, 3), (16, .iload_n 1, 1), (17, .iconst 0, 1), (18, .iadd, 1), (19, .dup2, 1), (20, .iaload, 1), (21, .aload_n 0, 1), (22, .getfield 38, 3), (25, .iload_n 3, 1), (26, .iaload, 1), (27, .isub, 1), (28, .iastore, 1), (29, .aload_n 0, 1), (30, .iload_n 3, 1), (31, .aload_n 0, 1), (32, .getfield 111, 3), (35, .iload_n 1, 1), (36, .iconst 3, 1), (37, .iadd, 1), (38, .iload_n 2, 1), (39, .iadd, 1), (40, .iaload, 1), (41, .invokevirtual 386, 3), (44, .ifCond .ne 46, 3), (47, .aload_n 0, 1), (48, .getfield 111, 3), (51, .iload_n 1, 1), (52, .bipush 9, 2), (54, .iadd, 1), (55, .iload_n 2, 1), (56, .iadd, 1), (57, .bipush 9, 2), (59, .aload_n 0, 1), (60, .getfield 111, 3), (63, .iload_n 1, 1), (64, .bipush 9, 2), (66, .iadd, 1), (67, .iload_n 2, 1), (68, .iadd, 1), (69, .iaload, 1), (70, .iconst 1, 1), (71, .iadd, 1), (72, .invokestatic 377, 3), (75, .iastore, 1), (76, .aload_n 0, 1), (77, .getfield 111, 3), (80, .iload_n 1, 1), (81, .bipush 15, 2), (83, .iadd, 1), (84, .iload_n 2, 1), (85, .iadd, 1), (86, .iconst 0, 1), (87, .iastore, 1), (88, .iconst 0, 1), (89, .ireturn, 1), (90, .aload_n 0, 1), (91, .getfield 111, 3), (94, .iload_n 1, 1), (95, .iconst 3, 1), (96, .iadd, 1), (97, .iload_n 2, 1), (98, .iadd, 1), (99, .aload_n 0, 1), (100, .iload_n 3, 1), (101, .aload_n 0, 1), (102, .getfield 111, 3), (105, .iload_n 1, 1), (106, .iconst 3, 1), (107, .iadd, 1), (108, .iload_n 2, 1), (109, .iadd, 1), (110, .iaload, 1), (111, .invokevirtual 390, 3), (114, .iastore, 1), (115, .aload_n 0, 1), (116, .getfield 111, 3), (119, .iload_n 1, 1), (120, .bipush 15, 2), (122, .iadd, 1), (123, .iload_n 2, 1), (124, .iadd, 1), (125, .aload_n 0, 1), (126, .iload_n 3, 1), (127, .aload_n 0, 1), (128, .getfield 111, 3), (131, .iload_n 1, 1), (132, .bipush 15, 2), (134, .iadd, 1), (135, .iload_n 2, 1), (136, .iadd, 1), (137, .iaload, 1), (138, .iload 4, 2), (140, .invokevirtual 393, 3), (143, .iastore, 1), (144, .aload_n 0, 1), (145, .iload_n 2, 1), (146, .aload_n 0, 1), (147, .getfield 111, 3), (150, .iload_n 1, 1), (151, .bipush 9, 2), (153, .iadd, 1), (154, .iload_n 2, 1), (155, .iadd, 1), (156, .iaload, 1), (157, .aload_n 0, 1), (158, .getfield 111, 3), (161, .iload_n 1, 1), (162, .iconst 3, 1), (163, .iadd, 1), (164, .iload_n 2, 1), (165, .iadd, 1), (166, .iaload, 1), (167, .aload_n 0, 1), (168, .getfield 111, 3), (171, .iload_n 1, 1), (172, .bipush 15, 2), (174, .iadd, 1), (175, .iload_n 2, 1), (176, .iadd, 1), (177, .iaload, 1), (178, .iload 4, 2), (180, .invokevirtual 396, 3), (183, .ifCond .ne 5, 3), (186, .iconst 1, 1), (187, .ireturn, 1), (188, .aload_n 0, 1), (189, .getfield 111, 3), (192, .iload_n 1, 1), (193, .bipush 21, 2), (195, .iadd, 1), (196, .iload_n 2, 1), (197, .iadd, 1), (198, .iconst 1, 1), (199, .iastore, 1), (200, .iconst 2, 1), (201, .ireturn, 1)]
set_option maxRecDepth 100000 in
theorem sa_kv258 : ∀ q ∈ sa_k258, decode cX12_attempts q.1 = .ok q.2 ∧ sa_ln q.2.1 q.2.2 = true := by decide +kernel
set_option maxRecDepth 100000 in
def sa_k259 : List (Nat × Instr × Nat) := [(0, .aload_n 0, 1), (1, .getfield 111, 3), (4, .iload_n 1, 1), (5, .bipush 21, 2), (7, .iadd, 1), (8, .iload_n 2, 1), (9, .iadd, 1), (10, .iaload, 1), (11, .ifCond .ne 24, 3), (14, .aload_n 0, 1), (15, .getfield 111, 3), (18, .iload_n 1, 1), (19, .iconst 0, 1), (20, .iadd, 1), (21, .iaload, 1), (22, .aload_n 0, 1), (23, .getfield 38, 3), (26, .iload_n 3, 1), (27, .iaload, 1), (28, .if_icmp .lt 7, 3), (31, .iconst 1, 1), (32, .goto 4, 3), (35, .iconst 0, 1), (36, .ireturn, 1)]
set_option maxRecDepth 100000 in
theorem sa_kv259 : ∀ q ∈ sa_k259, decode cX12_mayTry q.1 = .ok q.2 ∧ sa_ln q.2.1 q.2.2 = true := by decide +kernel
set_option maxRecDepth 100000 in
def sa_k260 : List (Nat × Instr × Nat) := [(0, .iconst (-1), 1), (1, .istore_n 2, 1), (2, .iconst 0, 1), (3, .istore_n 3, 1), (4, .iload_n 3, 1), (5, .aload_n 0, 1), (6, .getfield 338, 3), (9, .if_icmp .ge 58, 3), (12, .aload_n 0, 1), (13, .getfield 111, 3), (16, .iload_n 1, 1), (17, .bipush 21, 2), (19, .iadd, 1), (20, .iload_n 3, 1), (21, .iadd, 1), (22, .iaload, 1), (23, .iconst 1, 1), (24, .if_icmp .ne 37, 3), (27, .aload_n 0, 1), (28, .getfield 111, 3), (31, .iload_n 1, 1), (32, .iconst 2, 1), (33, .iadd, 1), (34, .iaload, 1), (35, .iload_n 3, 1), (36, .if_icmp .eq 25, 3), (39, .iload_n 2, 1), (40, .iconst (-1), 1), (41, .if_icmp .eq 18, 3), (44, .aload_n 0, 1), (45, .getfield 17, 3), (48, .iload_n 3, 1), (49, .iaload, 1), (50, .aload_n 0, 1), (51, .getfield 17, 3), (54, .iload_n 2, 1), (55, .iaload, 1), (56, .if_icmp .le 5, 3), (59, .iload_n 3, 1), (60, .istore_n 2, 1), (61, .iinc 3 1, 3), (64, .goto (-60), 3), (67, .iload_n 2, 1), (68, .iconst (-1), 1), (69, .if_icmp .eq 15, 3), (72, .aload_n 0, 1), (73, .getfield 111, 3), (76, .iload_n 1, 1), (77, .bipush 21, 2), (79, .iadd, 1), (80, .iload_n 2, 1), (81, .iadd, 1), (82, .iconst 2, 1), (83, .iastore, 1), (84, .return_, 1)]
set_option maxRecDepth 100000 in
theorem sa_kv260 : ∀ q ∈ sa_k260, decode cX12_steals q.1 = .ok q.2 ∧ sa_ln q.2.1 q.2.2 = true := by decide +kernel
set_option maxRecDepth 100000 in
def sa_k261 : List (Nat × Instr × Nat) := [(0, .iconst 0, 1), (1, .istore_n 2, 1), (2, .iload_n 2, 1), (3, .aload_n 0, 1), (4, .getfield 338, 3), (7, .if_icmp .ge 56, 3), (10, .aload_n 0, 1), (11, .getfield 111, 3), (14, .iload_n 1, 1), (15, .bipush 15, 2), (17, .iadd, 1), (18, .iload_n 2, 1), (19, .iadd, 1), (20, .dup2, 1), (21, .iaload, 1), (22, .aload_n 0, 1), (23, .getfield 111, 3), (26, .iload_n 1, 1), (27, .bipush 21, 2), (29, .iadd, 1), (30, .iload_n 2, 1), (31, .iadd, 1), (32, .iaload, 1), (33, .ifCond .ne 21, 3), (36, .aload_n 0, 1), (37, .getfield 111, 3), (40, .iload_n 1, 1), (41, .bipush 15, 2), (43, .iadd, 1), (44, .iload_n 2, 1), (45, .iadd, 1), (46, .iaload, 1), (47, .ifCond .le 7, 3), (50, .iconst 1, 1), (51, .goto 4, 3), (54, .iconst 0, 1), (55, .isub, 1), (56, .iastore, 1), (57, .iinc 2 1, 3), (60, .goto (-58), 3), (63, .aload_n 0, 1), (64, .getfield 350, 3), (67, .iconst (-1), 1), (68, .if_icmp .eq 33, 3), (71, .aload_n 0, 1), (72, .getfield 350, 3), (75, .ifCond .eq 26, 3), (78, .aload_n 0, 1), (79, .getfield 111, 3), (82, .iload_n 1, 1), (83, .iconst 1, 1), (84, .iadd, 1), (85, .iaload, 1), (86, .iconst 1, 1), (87, .iadd, 1), (88, .aload_n 0, 1), (89, .getfield 350, 3), (92, .irem, 1), (93, .ifCond .ne 8, 3), (96, .aload_n 0, 1), (97, .iload_n 1, 1), (98, .invokevirtual 400, 3), (101, .aload_n 0, 1), (102, .getfield 111, 3), (105, .iload_n 1, 1), (106, .iconst 1, 1), (107, .iadd, 1), (108, .dup2, 1), (109, .iaload, 1), (110, .iconst 1, 1), (111, .iadd, 1), (112, .iastore, 1), (113, .return_, 1)]
set_option maxRecDepth 100000 in
theorem sa_kv261 : ∀ q ∈ sa_k261, decode cX12_dayGoes q.1 = .ok q.2 ∧ sa_ln q.2.1 q.2.2 = true := by decide +kernel
set_option maxRecDepth 100000 in
def sa_k262 : List (Nat × Instr × Nat) := [(0, .aload_n 0, 1), (1, .iconst 0, 1), (2, .putfield 172, 3), (5, .aload_n 0, 1), (6, .iload_n 1, 1), (7, .iconst 0, 1), (8, .bipush 16, 2), (10, .invokestatic 403, 3), (13, .iconst 1, 1), (14, .invokevirtual 331, 3), (17, .ifCond .ne 5, 3), (20, .iconst 0, 1), (21, .ireturn, 1), (22, .iload_n 1, 1), (23, .tableswitch 146 0 13 #[69, 74, 79, 84, 89, 96, 103, 103, 103, 113, 120, 131, 136, 141], 69), (92, .aload_n 0, 1), (93, .getfield 338, 3), (96, .ireturn, 1), (97, .aload_n 0, 1), (98, .getfield 341, 3), (101, .ireturn, 1), (102, .aload_n 0, 1), (103, .getfield 344, 3), (106, .ireturn, 1), (107, .aload_n 0, 1), (108, .getfield 347, 3), (111, .ireturn, 1), (112, .aload_n 0, 1), (113, .getfield 111, 3), (116, .iconst 0, 1), (117, .iaload, 1), (118, .ireturn, 1), (119, .aload_n 0, 1), (120, .getfield 111, 3), (123, .iconst 1, 1), (124, .iaload, 1), (125, .ireturn, 1), (126, .aload_n 0, 1), (127, .iconst 0, 1), (128, .iload_n 1, 1), (129, .bipush 6, 2), (131, .isub, 1), (132, .invokevirtual 380, 3), (135, .ireturn, 1), (136, .aload_n 0, 1), (137, .getfield 111, 3), (140, .iconst 2, 1), (141, .iaload, 1), (142, .ireturn, 1), (143, .aload_n 0, 1), (144, .aload_n 0, 1), (145, .iconst 0, 1), (146, .iconst 1, 1), (147, .invokevirtual 380, 3), (150, .invokevirtual 383, 3), (153, .ireturn, 1), (154, .aload_n 0, 1), (155, .getfield 357, 3), (158, .ireturn, 1), (159, .aload_n 0, 1), (160, .getfield 360, 3), (163, .ireturn, 1), (164, .aload_n 0, 1), (165, .getfield 175, 3), (168, .ireturn, 1), (169, .aload_n 0, 1), (170, .getfield 59, 3), (173, .iload_n 1, 1), (174, .bipush 14, 2), (176, .isub, 1), (177, .iaload, 1), (178, .ireturn, 1)]
set_option maxRecDepth 100000 in
theorem sa_kv262 : ∀ q ∈ sa_k262, decode cX12_count q.1 = .ok q.2 ∧ sa_ln q.2.1 q.2.2 = true := by decide +kernel
set_option maxRecDepth 100000 in
def sa_k263 : List (Nat × Instr × Nat) := [(0, .aload_n 0, 1), (1, .iload_n 1, 1), (2, .ifCond .lt 15, 3), (5, .iload_n 1, 1), (6, .aload_n 0, 1), (7, .getfield 338, 3), (10, .if_icmp .ge 7, 3), (13, .iconst 1, 1), (14, .goto 4, 3), (17, .iconst 0, 1), (18, .iconst 1, 1), (19, .invokevirtual 331, 3), (22, .ireturn, 1)]
set_option maxRecDepth 100000 in
theorem sa_kv263 : ∀ q ∈ sa_k263, decode cX12_isCreature q.1 = .ok q.2 ∧ sa_ln q.2.1 q.2.2 = true := by decide +kernel
set_option maxRecDepth 100000 in
def sa_k264 : List (Nat × Instr × Nat) := [(0, .aload_n 0, 1), (1, .iload_n 1, 1), (2, .ifCond .lt 15, 3), (5, .iload_n 1, 1), (6, .aload_n 0, 1), (7, .getfield 341, 3), (10, .if_icmp .ge 7, 3), (13, .iconst 1, 1), (14, .goto 4, 3), (17, .iconst 0, 1), (18, .iconst 1, 1), (19, .invokevirtual 331, 3), (22, .ireturn, 1)]
set_option maxRecDepth 100000 in
theorem sa_kv264 : ∀ q ∈ sa_k264, decode cX12_isTrick q.1 = .ok q.2 ∧ sa_ln q.2.1 q.2.2 = true := by decide +kernel
set_option maxRecDepth 100000 in
def sa_k265 : List (Nat × Instr × Nat) := [(0, .aload_n 0, 1), (1, .iload_n 1, 1), (2, .iconst 0, 1), (3, .iload_n 2, 1), (4, .invokestatic 403, 3), (7, .iconst 1, 1), (8, .invokevirtual 331, 3), (11, .ireturn, 1)]
set_option maxRecDepth 100000 in
theorem sa_kv265 : ∀ q ∈ sa_k265, decode cX12_isWhat q.1 = .ok q.2 ∧ sa_ln q.2.1 q.2.2 = true := by decide +kernel
set_option maxRecDepth 100000 in
def sa_k266 : List (Nat × Instr × Nat) := [(0, .iconst 0, 1), (1, .istore_n 2, 1), (2, .iconst 0, 1), (3, .istore_n 3, 1), (4, .iload_n 3, 1), (5, .aload_n 0, 1), (6, .getfield 341, 3), (9, .if_icmp .ge 47, 3), (12, .aload_n 0, 1), (13, .getfield 111, 3), (16, .bipush 21, 2), (18, .iload_n 1, 1), (19, .iadd, 1), (20, .iaload, 1), (21, .ifCond .ne 35, 3), (24, .iload_n 2, 1), (25, .aload_n 0, 1), (26, .iload_n 3, 1), (27, .aload_n 0, 1), (28, .getfield 111, 3), (31, .iconst 3, 1), (32, .iload_n 1, 1), (33, .iadd, 1), (34, .iaload, 1), (35, .invokevirtual 386, 3), (38, .ifCond .eq 9, 3), (41, .iconst 1, 1), (42, .iload_n 3, 1), (43, .ishl, 1), (44, .goto 4, 3), (47, .iconst 0, 1), (48, .ior, 1), (49, .istore_n 2, 1), (50, .iinc 3 1, 3), (53, .goto (-49), 3), (56, .iload_n 2, 1), (57, .ireturn, 1)]
set_option maxRecDepth 100000 in
theorem sa_kv266 : ∀ q ∈ sa_k266, decode cX12_keys q.1 = .ok q.2 ∧ sa_ln q.2.1 q.2.2 = true := by decide +kernel
set_option maxRecDepth 100000 in
def sa_k267 : List (Nat × Instr × Nat) := [(0, .aload_n 0, 1), (1, .iconst 0, 1), (2, .putfield 172, 3), (5, .aload_n 0, 1), (6, .iload_n 1, 1), (7, .invokevirtual 407, 3), (10, .ifCond .eq 13, 3), (13, .aload_n 0, 1), (14, .iload_n 2, 1), (15, .bipush 7, 2), (17, .invokevirtual 410, 3), (20, .ifCond .ne 5, 3), (23, .iconst 0, 1), (24, .ireturn, 1), (25, .iload_n 2, 1), (26, .tableswitch 102 0 6 #[42, 49, 58, 68, 75, 82, 92], 42), (68, .aload_n 0, 1), (69, .getfield 13, 3), (72, .iload_n 1, 1), (73, .iaload, 1), (74, .ireturn, 1), (75, .aload_n 0, 1), (76, .getfield 111, 3), (79, .iconst 3, 1), (80, .iload_n 1, 1), (81, .iadd, 1), (82, .iaload, 1), (83, .ireturn, 1), (84, .aload_n 0, 1), (85, .getfield 111, 3), (88, .bipush 9, 2), (90, .iload_n 1, 1), (91, .iadd, 1), (92, .iaload, 1), (93, .ireturn, 1), (94, .aload_n 0, 1), (95, .getfield 17, 3), (98, .iload_n 1, 1), (99, .iaload, 1), (100, .ireturn, 1), (101, .aload_n 0, 1), (102, .getfield 20, 3), (105, .iload_n 1, 1), (106, .iaload, 1), (107, .ireturn, 1), (108, .aload_n 0, 1), (109, .getfield 111, 3), (112, .bipush 15, 2), (114, .iload_n 1, 1), (115, .iadd, 1), (116, .iaload, 1), (117, .ireturn, 1), (118, .aload_n 0, 1), (119, .getfield 111, 3), (122, .bipush 21, 2), (124, .iload_n 1, 1), (125, .iadd, 1), (126, .iaload, 1), (127, .ireturn, 1), (128, .aload_n 0, 1), (129, .iload_n 1, 1), (130, .invokevirtual 413, 3), (133, .ireturn, 1)]
set_option maxRecDepth 100000 in
theorem sa_kv267 : ∀ q ∈ sa_k267, decode cX12_creature q.1 = .ok q.2 ∧ sa_ln q.2.1 q.2.2 = true := by decide +kernel
set_option maxRecDepth 100000 in
def sa_k268 : List (Nat × Instr × Nat) := [(0, .aload_n 0, 1), (1, .iconst 0, 1), (2, .putfield 172, 3), (5, .aload_n 0, 1), (6, .iload_n 1, 1), (7, .invokevirtual 416, 3), (10, .ifCond .eq 12, 3), (13, .aload_n 0, 1), (14, .iload_n 2, 1), (15, .iconst 5, 1), (16, .invokevirtual 410, 3), (19, .ifCond .ne 5, 3), (22, .iconst 0, 1), (23, .ireturn, 1), (24, .iload_n 2, 1), (25, .ifCond .ne 12, 3), (28, .aload_n 0, 1), (29, .getfield 23, 3), (32, .iload_n 1, 1), (33, .iaload, 1), (34, .goto 65, 3), (37, .iload_n 2, 1), (38, .iconst 1, 1), (39, .if_icmp .ne 12, 3), (42, .aload_n 0, 1), (43, .getfield 26, 3), (46, .iload_n 1, 1), (47, .iaload, 1), (48, .goto 51, 3), (51, .iload_n 2, 1), (52, .iconst 2, 1), (53, .if_icmp .ne 12, 3), (56, .aload_n 0, 1), (57, .getfield 29, 3), (60, .iload_n 1, 1), (61, .iaload, 1), (62, .goto 37, 3), (65, .iload_n 2, 1), (66, .iconst 3, 1), (67, .if_icmp .ne 12, 3), (70, .aload_n 0, 1), (71, .getfield 32, 3), (74, .iload_n 1, 1), (75, .iaload, 1), (76, .goto 23, 3), (79, .iload_n 2, 1), (80, .iconst 4, 1), (81, .if_icmp .ne 12, 3), (84, .aload_n 0, 1), (85, .getfield 35, 3), (88, .iload_n 1, 1), (89, .iaload, 1), (90, .goto 9, 3), (93, .aload_n 0, 1), (94, .getfield 38, 3), (97, .iload_n 1, 1), (98, .iaload, 1), (99, .ireturn, 1)]
set_option maxRecDepth 100000 in
theorem sa_kv268 : ∀ q ∈ sa_k268, decode cX12_trick q.1 = .ok q.2 ∧ sa_ln q.2.1 q.2.2 = true := by decide +kernel
set_option maxRecDepth 100000 in
def sa_k269 : List (Nat × Instr × Nat) := [(0, .aload_n 0, 1), (1, .iconst 0, 1), (2, .putfield 172, 3), (5, .aload_n 0, 1), (6, .iload_n 1, 1), (7, .invokevirtual 407, 3), (10, .ifCond .eq 11, 3), (13, .aload_n 0, 1), (14, .iload_n 2, 1), (15, .invokevirtual 416, 3), (18, .ifCond .ne 5, 3), (21, .iconst 0, 1), (22, .ireturn, 1), (23, .aload_n 0, 1), (24, .iconst 0, 1), (25, .iload_n 1, 1), (26, .iload_n 2, 1), (27, .invokevirtual 419, 3), (30, .ifCond .ne 9, 3), (33, .aload_n 0, 1), (34, .iconst 1, 1), (35, .invokevirtual 422, 3), (38, .ireturn, 1), (39, .aload_n 0, 1), (40, .invokevirtual 425, 3), (43, .aload_n 0, 1), (44, .iconst 0, 1), (45, .iload_n 1, 1), (46, .iload_n 2, 1), (47, .invokevirtual 428, 3), (50, .ireturn, 1)]
set_option maxRecDepth 100000 in
theorem sa_kv269 : ∀ q ∈ sa_k269, decode cX12_attempt q.1 = .ok q.2 ∧ sa_ln q.2.1 q.2.2 = true := by decide +kernel
set_option maxRecDepth 100000 in
def sa_k270 : List (Nat × Instr × Nat) := [(0, .aload_n 0, 1), (1, .iconst 0, 1), (2, .putfield 172, 3), (5, .iload_n 1, 1), (6, .iconst 1, 1), (7, .bipush 20, 2), (9, .invokestatic 403, 3), (12, .ifCond .eq 17, 3), (15, .aload_n 0, 1), (16, .getfield 111, 3), (19, .iconst 1, 1), (20, .iaload, 1), (21, .iload_n 1, 1), (22, .iadd, 1), (23, .sipush 999, 3), (26, .if_icmp .le 9, 3), (29, .aload_n 0, 1), (30, .iconst 1, 1), (31, .invokevirtual 422, 3), (34, .ireturn, 1), (35, .aload_n 0, 1), (36, .invokevirtual 425, 3), (39, .iconst 0, 1), (40, .istore_n 2, 1), (41, .iload_n 2, 1), (42, .iload_n 1, 1), (43, .if_icmp .ge 14, 3), (46, .aload_n 0, 1), (47, .iconst 0, 1), (48, .invokevirtual 431, 3), (51, .iinc 2 1, 3), (54, .goto (-13), 3), (57, .aload_n 0, 1), (58, .getfield 111, 3), (61, .iconst 1, 1), (62, .iaload, 1), (63, .ireturn, 1)]
set_option maxRecDepth 100000 in
theorem sa_kv270 : ∀ q ∈ sa_k270, decode cX12_days q.1 = .ok q.2 ∧ sa_ln q.2.1 q.2.2 = true := by decide +kernel
set_option maxRecDepth 100000 in
def sa_k271 : List (Nat × Instr × Nat) := [(0, .aload_n 0, 1), (1, .iconst 0, 1), (2, .putfield 172, 3), (5, .aload_n 0, 1), (6, .iload_n 1, 1), (7, .invokevirtual 407, 3), (10, .ifCond .ne 5, 3), (13, .iconst 0, 1), (14, .ireturn, 1), (15, .aload_n 0, 1), (16, .getfield 111, 3), (19, .bipush 21, 2), (21, .iload_n 1, 1), (22, .iadd, 1), (23, .iaload, 1), (24, .iconst 1, 1), (25, .if_icmp .ne 13, 3), (28, .aload_n 0, 1), (29, .getfield 111, 3), (32, .iconst 2, 1), (33, .iaload, 1), (34, .iload_n 1, 1), (35, .if_icmp .ne 17, 3), (38, .aload_n 0, 1), (39, .iconst 1, 1), (40, .invokevirtual 422, 3), (43, .ifCond .le 7, 3), (46, .iconst 1, 1), (47, .goto 4, 3), (50, .iconst 0, 1), (51, .ireturn, 1), (52, .aload_n 0, 1), (53, .invokevirtual 425, 3), (56, .aload_n 0, 1), (57, .getfield 111, 3), (60, .iconst 2, 1), (61, .iload_n 1, 1), (62, .iastore, 1), (63, .iconst 1, 1), (64, .ireturn, 1)]
set_option maxRecDepth 100000 in
theorem sa_kv271 : ∀ q ∈ sa_k271, decode cX12_guard q.1 = .ok q.2 ∧ sa_ln q.2.1 q.2.2 = true := by decide +kernel
set_option maxRecDepth 100000 in
def sa_k272 : List (Nat × Instr × Nat) := [(0, .aload_n 0, 1), (1, .iconst 0, 1), (2, .putfield 172, 3), (5, .iload_n 1, 1), (6, .iconst 1, 1), (7, .bipush 99, 2), (9, .invokestatic 403, 3), (12, .ifCond .ne 9, 3), (15, .aload_n 0, 1), (16, .iconst 1, 1), (17, .invokevirtual 422, 3), (20, .ireturn, 1), (21, .aload_n 0, 1), (22, .invokevirtual 425, 3), (25, .aload_n 0, 1), (26, .getfield 111, 3), (29, .iconst 0, 1), (30, .sipush 999, 3), (33, .aload_n 0, 1), (34, .getfield 111, 3), (37, .iconst 0, 1), (38, .iaload, 1), (39, .iload_n 1, 1), (40, .iadd, 1), (41, .invokestatic 377, 3), (44, .iastore, 1), (45, .aload_n 0, 1), (46, .getfield 111, 3), (49, .iconst 0, 1), (50, .iaload, 1), (51, .ireturn, 1)]
set_option maxRecDepth 100000 in
theorem sa_kv272 : ∀ q ∈ sa_k272, decode cX12_give q.1 = .ok q.2 ∧ sa_ln q.2.1 q.2.2 = true := by decide +kernel
set_option maxRecDepth 100000 in
def sa_k273 : List (Nat × Instr × Nat) := [(0, .aload_n 0, 1), (1, .iconst 0, 1), (2, .putfield 172, 3), (5, .aload_n 0, 1), (6, .iload_n 1, 1), (7, .invokevirtual 407, 3), (10, .ifCond .eq 12, 3), (13, .aload_n 0, 1), (14, .iload_n 2, 1), (15, .iconst 5, 1), (16, .invokevirtual 410, 3), (19, .ifCond .ne 5, 3), (22, .iconst 0, 1), (23, .ireturn, 1), (24, .aload_n 0, 1), (25, .getfield 111, 3), (28, .iconst 3, 1), (29, .iload_n 1, 1), (30, .iadd, 1), (31, .iaload, 1), (32, .istore 4, 2), (34, .aload_n 0, 1), (35, .getfield 111, 3), (38, .bipush 21, 2), (40, .iload_n 1, 1), (41, .iadd, 1), (42, .iaload, 1), (43, .ifCond .ne 22, 3), (46, .iload 4, 2), (48, .iload_n 2, 1), (49, .ishr, 1), (50, .iconst 1, 1), (51, .iand, 1), (52, .iconst 1, 1), (53, .if_icmp .ne 7, 3), (56, .iconst 1, 1), (57, .goto 4, 3), (60, .iconst 0, 1), (61, .iload_n 3, 1), (62, .if_icmp .ne 9, 3), (65, .aload_n 0, 1), (66, .iconst 1, 1), (67, .invokevirtual 422, 3), (70, .ireturn, 1), (71, .aload_n 0, 1), (72, .invokevirtual 425, 3), (75, .aload_n 0, 1), (76, .getfield 111, 3), (79, .iconst 3, 1), (80, .iload_n 1, 1), (81, .iadd, 1), (82, .iload 4, 2), (84, .iconst 1, 1), (85, .iload_n 2, 1), (86, .ishl, 1), (87, .ixor, 1), (88, .iastore, 1), (89, .aload_n 0, 1), (90, .getfield 111, 3), (93, .iconst 3, 1), (94, .iload_n 1, 1), (95, .iadd, 1), (96, .iaload, 1), (97, .ireturn, 1)]
set_option maxRecDepth 100000 in
theorem sa_kv273 : ∀ q ∈ sa_k273, decode cX12_tell q.1 = .ok q.2 ∧ sa_ln q.2.1 q.2.2 = true := by decide +kernel
set_option maxRecDepth 100000 in
def sa_k274 : List (Nat × Instr × Nat) := [(0, .bipush 61, 2), (2, .iload_n 0, 1), (3, .imul, 1), (4, .iload_n 1, 1), (5, .iadd, 1), (6, .ireturn, 1)]
set_option maxRecDepth 100000 in
theorem sa_kv274 : ∀ q ∈ sa_k274, decode cX12_placeOf q.1 = .ok q.2 ∧ sa_ln q.2.1 q.2.2 = true := by decide +kernel
set_option maxRecDepth 100000 in
def sa_k275 : List (Nat × Instr × Nat) := [(0, .aload_n 0, 1), (1, .getfield 141, 3), (4, .iload_n 1, 1), (5, .baload, 1), (6, .ifCond .eq 4, 3), (9, .return_, 1), (10, .aload_n 0, 1), (11, .getfield 141, 3), (14, .iload_n 1, 1), (15, .iconst 1, 1), (16, .bastore, 1), (17, .aload_n 0, 1), (18, .getfield 123, 3), (21, .aload_n 0, 1), (22, .getfield 434, 3), (25, .iload_n 1, 1), (26, .iastore, 1), (27, .aload_n 0, 1), (28, .getfield 126, 3), (31, .iload_n 1, 1), (32, .iload_n 2, 1), (33, .iastore, 1), (34, .aload_n 0, 1), (35, .getfield 129, 3), (38, .iload_n 1, 1), (39, .iload_n 3, 1), (40, .iastore, 1), (41, .aload_n 0, 1), (42, .getfield 132, 3), (45, .iload_n 1, 1), (46, .iload_n 2, 1), (47, .iconst (-1), 1), (48, .if_icmp .ne 7, 3), (51, .iconst 0, 1), (52, .goto 11, 3), (55, .aload_n 0, 1), (56, .getfield 132, 3), (59, .iload_n 2, 1), (60, .iaload, 1), (61, .iconst 1, 1), (62, .iadd, 1), (63, .iastore, 1), (64, .aload_n 0, 1), (65, .dup, 1), (66, .getfield 434, 3), (69, .iconst 1, 1), (70, .iadd, 1), (71, .putfield 434, 3), (74, .return_, 1)]
set_option maxRecDepth 100000 in
theorem sa_kv275 : ∀ q ∈ sa_k275, decode cX12_comes q.1 = .ok q.2 ∧ sa_ln q.2.1 q.2.2 = true := by decide +kernel
end
section
set_option maxRecDepth 100000 in
def sa_k276 : List (Nat × Instr × Nat) := [(0, .iconst 0, 1), (1, .istore_n 2, 1), (2, .iload_n 2, 1), (3, .sipush 3904, 3), (6, .if_icmp .ge 16, 3), (9, .aload_n 0, 1), (10, .getfield 141, 3), (13, .iload_n 2, 1), (14, .iconst 0, 1), (15, .bastore, 1), (16, .iinc 2 1, 3), (19, .goto (-17), 3), (22, .aload_n 0, 1), (23, .iconst 0, 1), (24, .putfield 434, 3), (27, .aload_n 0, 1), (28, .aload_n 0, 1), (29, .getfield 111, 3), (32, .iconst 3, 1), (33, .iload_n 1, 1), (34, .iadd, 1), (35, .iaload, 1), (36, .aload_n 0, 1), (37, .getfield 111, 3), (40, .bipush 15, 2), (42, .iload_n 1, 1), (43, .iadd, 1), (44, .iaload, 1), (45, .invokestatic 437, 3), (48, .iconst (-1), 1), (49, .iconst (-1), 1), (50, .invokevirtual 440, 3), (53, .return_, 1)]
set_option maxRecDepth 100000 in
theorem sa_kv276 : ∀ q ∈ sa_k276, decode cX12_starts q.1 = .ok q.2 ∧ sa_ln q.2.1 q.2.2 = true := by decide +kernel
set_option maxRecDepth 100000 in
def sa_k277 : List (Nat × Instr × Nat) := [(0, .aload_n 0, 1), (1, .getfield 132, 3), (4, .iload_n 1, 1), (5, .iaload, 1), (6, .iconst 1, 1), (7, .iadd, 1), (8, .istore_n 3, 1), (9, .aload_n 0, 1), (10, .getfield 138, 3), (13, .iload_n 3, 1), (14, .iconst 1, 1), (15, .isub, 1), (16, .iload_n 2, 1), (17, .iastore, 1), (18, .iload_n 1, 1), (19, .istore 4, 2), (21, .iload_n 3, 1), (22, .iconst 2, 1), (23, .isub, 1), (24, .istore 5, 2), (26, .iload 5, 2), (28, .ifCond .lt 32, 3), (31, .aload_n 0, 1), (32, .getfield 138, 3), (35, .iload 5, 2), (37, .aload_n 0, 1), (38, .getfield 129, 3), (41, .iload 4, 2), (43, .iaload, 1), (44, .iastore, 1), (45, .aload_n 0, 1), (46, .getfield 126, 3), (49, .iload 4, 2), (51, .iaload, 1), (52, .istore 4, 2), (54, .iinc 5 (-1), 3), (57, .goto (-31), 3), (60, .iload_n 3, 1), (61, .ireturn, 1)]
set_option maxRecDepth 100000 in
theorem sa_kv277 : ∀ q ∈ sa_k277, decode cX12_laysRow q.1 = .ok q.2 ∧ sa_ln q.2.1 q.2.2 = true := by decide +kernel
set_option maxRecDepth 100000 in
def sa_k278 : List (Nat × Instr × Nat) := [(0, .aload_n 0, 1), (1, .iload_n 1, 1), (2, .invokevirtual 444, 3), (5, .iconst 0, 1), (6, .istore_n 3, 1), (7, .iload_n 3, 1), (8, .aload_n 0, 1), (9, .getfield 434, 3), (12, .if_icmp .ge 125, 3), (15, .aload_n 0, 1), (16, .getfield 123, 3), (19, .iload_n 3, 1), (20, .iaload, 1), (21, .istore 4, 2), (23, .iconst 0, 1), (24, .istore 5, 2), (26, .iload 5, 2), (28, .aload_n 0, 1), (29, .getfield 341, 3), (32, .if_icmp .ge 99, 3), (35, .aload_n 0, 1), (36, .iload 5, 2), (38, .iload 4, 2), (40, .bipush 61, 2), (42, .idiv, 1), (43, .invokevirtual 386, 3), (46, .ifCond .ne 6, 3), (49, .goto 76, 3), (52, .aload_n 0, 1), (53, .iload 5, 2), (55, .iload 4, 2), (57, .bipush 61, 2), (59, .idiv, 1), (60, .invokevirtual 390, 3), (63, .istore 6, 2), (65, .aload_n 0, 1), (66, .iload 5, 2), (68, .iload 4, 2), (70, .bipush 61, 2), (72, .irem, 1), (73, .iload_n 2, 1), (74, .invokevirtual 393, 3), (77, .istore 7, 2), (79, .aload_n 0, 1), (80, .iload_n 1, 1), (81, .aload_n 0, 1), (82, .getfield 111, 3), (85, .bipush 9, 2), (87, .iload_n 1, 1), (88, .iadd, 1), (89, .iaload, 1), (90, .iload 6, 2), (92, .iload 7, 2), (94, .iload_n 2, 1), (95, .invokevirtual 396, 3), (98, .ifCond .eq 12, 3), (101, .aload_n 0, 1), (102, .iload 4, 2), (104, .iload 5, 2), (106, .invokevirtual 447, 3), (109, .ireturn, 1), (110, .aload_n 0, 1), (111, .iload 6, 2), (113, .iload 7, 2), (115, .invokestatic 437, 3), (118, .iload 4, 2), (120, .iload 5, 2), (122, .invokevirtual 440, 3), (125, .iinc 5 1, 3), (128, .goto (-102), 3), (131, .iinc 3 1, 3), (134, .goto (-127), 3), (137, .ldc_w 450, 3), (140, .ireturn, 1)]
set_option maxRecDepth 100000 in
theorem sa_kv278 : ∀ q ∈ sa_k278, decode cX12_fewest q.1 = .ok q.2 ∧ sa_ln q.2.1 q.2.2 = true := by decide +kernel
set_option maxRecDepth 100000 in
def sa_k279 : List (Nat × Instr × Nat) := [(0, .aload_n 0, 1), (1, .iconst 0, 1), (2, .putfield 172, 3), (5, .aload_n 0, 1), (6, .iload_n 1, 1), (7, .invokevirtual 407, 3), (10, .ifCond .eq 21, 3), (13, .aload_n 0, 1), (14, .iload_n 2, 1), (15, .iconst (-1), 1), (16, .if_icmp .lt 7, 3), (19, .iconst 1, 1), (20, .goto 4, 3), (23, .iconst 0, 1), (24, .iconst 1, 1), (25, .invokevirtual 331, 3), (28, .ifCond .ne 5, 3), (31, .iconst 0, 1), (32, .ireturn, 1), (33, .aload_n 0, 1), (34, .getfield 111, 3), (37, .bipush 21, 2), (39, .iload_n 1, 1), (40, .iadd, 1), (41, .iaload, 1), (42, .ifCond .eq 6, 3), (45, .bipush (-2), 2), (47, .ireturn, 1), (48, .aload_n 0, 1), (49, .iload_n 1, 1), (50, .aload_n 0, 1), (51, .aload_n 0, 1), (52, .iconst 0, 1), (53, .iconst 1, 1), (54, .invokevirtual 380, 3), (57, .invokevirtual 383, 3), (60, .invokevirtual 451, 3), (63, .istore_n 3, 1), (64, .iload_n 3, 1), (65, .ldc_w 450, 3), (68, .if_icmp .ne 6, 3), (71, .bipush (-2), 2), (73, .ireturn, 1), (74, .iload_n 2, 1), (75, .iconst (-1), 1), (76, .if_icmp .ne 5, 3), (79, .iload_n 3, 1), (80, .ireturn, 1), (81, .aload_n 0, 1), (82, .iload_n 2, 1), (83, .iload_n 3, 1), (84, .if_icmp .ge 7, 3), (87, .iconst 1, 1), (88, .goto 4, 3), (91, .iconst 0, 1), (92, .iconst 1, 1), (93, .invokevirtual 331, 3), (96, .ifCond .eq 12, 3), (99, .aload_n 0, 1), (100, .getfield 138, 3), (103, .iload_n 2, 1), (104, .iaload, 1), (105, .goto 4, 3), (108, .iconst 0, 1), (109, .ireturn, 1)]
set_option maxRecDepth 100000 in
theorem sa_kv279 : ∀ q ∈ sa_k279, decode cX12_plan q.1 = .ok q.2 ∧ sa_ln q.2.1 q.2.2 = true := by decide +kernel
set_option maxRecDepth 100000 in
def sa_k280 : List (Nat × Instr × Nat) := [(0, .aload_n 0, 1), (1, .iload_n 3, 1), (2, .iload_n 2, 1), (3, .bipush 61, 2), (5, .idiv, 1), (6, .invokevirtual 390, 3), (9, .istore 5, 2), (11, .aload_n 0, 1), (12, .iload_n 3, 1), (13, .iload_n 2, 1), (14, .bipush 61, 2), (16, .irem, 1), (17, .iload 4, 2), (19, .invokevirtual 393, 3), (22, .istore 6, 2), (24, .aload_n 0, 1), (25, .getfield 135, 3), (28, .iload_n 2, 1), (29, .iaload, 1), (30, .aload_n 0, 1), (31, .getfield 38, 3), (34, .iload_n 3, 1), (35, .iaload, 1), (36, .iadd, 1), (37, .istore 7, 2), (39, .aload_n 0, 1), (40, .iload_n 1, 1), (41, .aload_n 0, 1), (42, .getfield 111, 3), (45, .bipush 9, 2), (47, .iload_n 1, 1), (48, .iadd, 1), (49, .iaload, 1), (50, .iload 5, 2), (52, .iload 6, 2), (54, .iload 4, 2), (56, .invokevirtual 396, 3), (59, .ifCond .eq 17, 3), (62, .aload_n 0, 1), (63, .aload_n 0, 1), (64, .getfield 454, 3), (67, .iload 7, 2), (69, .invokestatic 377, 3), (72, .putfield 454, 3), (75, .return_, 1), (76, .iload 5, 2), (78, .iload 6, 2), (80, .invokestatic 437, 3), (83, .istore 8, 2), (85, .aload_n 0, 1), (86, .getfield 141, 3), (89, .iload 8, 2), (91, .baload, 1), (92, .ifCond .ne 7, 3), (95, .iconst 1, 1), (96, .goto 4, 3), (99, .iconst 0, 1), (100, .istore 9, 2), (102, .aload_n 0, 1), (103, .iload 8, 2), (105, .iload_n 2, 1), (106, .iload_n 3, 1), (107, .invokevirtual 440, 3), (110, .iload 9, 2), (112, .ifCond .ne 16, 3), (115, .aload_n 0, 1), (116, .getfield 135, 3), (119, .iload 8, 2), (121, .iaload, 1), (122, .iload 7, 2), (124, .if_icmp .gt 4, 3), (127, .return_, 1), (128, .aload_n 0, 1), (129, .getfield 135, 3), (132, .iload 8, 2), (134, .iload 7, 2), (136, .iastore, 1), (137, .aload_n 0, 1), (138, .iconst 1, 1), (139, .putfield 457, 3), (142, .return_, 1)]
set_option maxRecDepth 100000 in
theorem sa_kv280 : ∀ q ∈ sa_k280, decode cX12_cheapens q.1 = .ok q.2 ∧ sa_ln q.2.1 q.2.2 = true := by decide +kernel
set_option maxRecDepth 100000 in
def sa_k281 : List (Nat × Instr × Nat) := [(0, .aload_n 0, 1), (1, .iconst 0, 1), (2, .putfield 172, 3), (5, .aload_n 0, 1), (6, .iload_n 1, 1), (7, .invokevirtual 407, 3), (10, .ifCond .ne 5, 3), (13, .iconst 0, 1), (14, .ireturn, 1), (15, .aload_n 0, 1), (16, .getfield 111, 3), (19, .bipush 21, 2), (21, .iload_n 1, 1), (22, .iadd, 1), (23, .iaload, 1), (24, .ifCond .eq 5, 3), (27, .iconst (-1), 1), (28, .ireturn, 1), (29, .aload_n 0, 1), (30, .aload_n 0, 1), (31, .iconst 0, 1), (32, .iconst 1, 1), (33, .invokevirtual 380, 3), (36, .invokevirtual 383, 3), (39, .istore_n 2, 1), (40, .aload_n 0, 1), (41, .iload_n 1, 1), (42, .invokevirtual 444, 3), (45, .aload_n 0, 1), (46, .getfield 135, 3), (49, .aload_n 0, 1), (50, .getfield 123, 3), (53, .iconst 0, 1), (54, .iaload, 1), (55, .iconst 0, 1), (56, .iastore, 1), (57, .aload_n 0, 1), (58, .ldc_w 450, 3), (61, .putfield 454, 3), (64, .aload_n 0, 1), (65, .iconst 1, 1), (66, .putfield 457, 3), (69, .aload_n 0, 1), (70, .getfield 457, 3), (73, .ifCond .eq 77, 3), (76, .aload_n 0, 1), (77, .iconst 0, 1), (78, .putfield 457, 3), (81, .iconst 0, 1), (82, .istore_n 3, 1), (83, .iload_n 3, 1), (84, .aload_n 0, 1), (85, .getfield 434, 3), (88, .if_icmp .ge 59, 3), (91, .iconst 0, 1), (92, .istore 4, 2), (94, .iload 4, 2), (96, .aload_n 0, 1), (97, .getfield 341, 3), (100, .if_icmp .ge 41, 3), (103, .aload_n 0, 1), (104, .iload 4, 2), (106, .aload_n 0, 1), (107, .getfield 123, 3), (110, .iload_n 3, 1), (111, .iaload, 1), (112, .bipush 61, 2), (114, .idiv, 1), (115, .invokevirtual 386, 3), (118, .ifCond .eq 17, 3), (121, .aload_n 0, 1), (122, .iload_n 1, 1), (123, .aload_n 0, 1), (124, .getfield 123, 3), (127, .iload_n 3, 1), (128, .iaload, 1), (129, .iload 4, 2), (131, .iload_n 2, 1), (132, .invokevirtual 460, 3), (135, .iinc 4 1, 3), (138, .goto (-44), 3), (141, .iinc 3 1, 3), (144, .goto (-61), 3), (147, .goto (-78), 3), (150, .aload_n 0, 1), (151, .getfield 454, 3), (154, .ldc_w 450, 3), (157, .if_icmp .ne 7, 3), (160, .iconst (-1), 1), (161, .goto 7, 3), (164, .aload_n 0, 1), (165, .getfield 454, 3), (168, .ireturn, 1)]
set_option maxRecDepth 100000 in
theorem sa_kv281 : ∀ q ∈ sa_k281, decode cX12_cheapest q.1 = .ok q.2 ∧ sa_ln q.2.1 q.2.2 = true := by decide +kernel
set_option maxRecDepth 100000 in
def sa_k282 : List (Nat × Instr × Nat) := [(0, .aload_n 0, 1), (1, .iconst 0, 1), (2, .putfield 172, 3), (5, .aload_n 0, 1), (6, .iload_n 1, 1), (7, .invokevirtual 407, 3), (10, .ifCond .eq 42, 3), (13, .aload_n 0, 1), (14, .iload_n 2, 1), (15, .iconst 0, 1), (16, .bipush 63, 2), (18, .invokestatic 403, 3), (21, .ifCond .eq 23, 3), (24, .iload_n 3, 1), (25, .iconst 0, 1), (26, .bipush 63, 2), (28, .invokestatic 403, 3), (31, .ifCond .eq 13, 3), (34, .iload_n 2, 1), (35, .iload_n 3, 1), (36, .iand, 1), (37, .ifCond .ne 7, 3), (40, .iconst 1, 1), (41, .goto 4, 3), (44, .iconst 0, 1), (45, .iconst 2, 1), (46, .invokevirtual 331, 3), (49, .ifCond .ne 5, 3), (52, .iconst 0, 1), (53, .ireturn, 1), (54, .aload_n 0, 1), (55, .getfield 111, 3), (58, .bipush 21, 2), (60, .iload_n 1, 1), (61, .iadd, 1), (62, .iaload, 1), (63, .ifCond .eq 5, 3), (66, .iconst 0, 1), (67, .ireturn, 1), (68, .aload_n 0, 1), (69, .aload_n 0, 1), (70, .iconst 0, 1), (71, .iconst 1, 1), (72, .invokevirtual 380, 3), (75, .invokevirtual 383, 3), (78, .istore 4, 2), (80, .aload_n 0, 1), (81, .getfield 111, 3), (84, .iconst 3, 1), (85, .iload_n 1, 1), (86, .iadd, 1), (87, .iaload, 1), (88, .iload_n 2, 1), (89, .iand, 1), (90, .iload_n 2, 1), (91, .if_icmp .ne 18, 3), (94, .aload_n 0, 1), (95, .getfield 111, 3), (98, .iconst 3, 1), (99, .iload_n 1, 1), (100, .iadd, 1), (101, .iaload, 1), (102, .iload_n 3, 1), (103, .iand, 1), (104, .ifCond .ne 5, 3), (107, .iconst 1, 1), (108, .ireturn, 1), (109, .aload_n 0, 1), (110, .iload_n 1, 1), (111, .invokevirtual 444, 3), (114, .iconst 0, 1), (115, .istore 5, 2), (117, .iload 5, 2), (119, .aload_n 0, 1), (120, .getfield 434, 3), (123, .if_icmp .ge 136, 3), (126, .aload_n 0, 1), (127, .getfield 123, 3), (130, .iload 5, 2), (132, .iaload, 1), (133, .istore 6, 2), (135, .iconst 0, 1), (136, .istore 7, 2), (138, .iload 7, 2), (140, .aload_n 0, 1), (141, .getfield 341, 3), (144, .if_icmp .ge 109, 3), (147, .aload_n 0, 1), (148, .iload 7, 2), (150, .iload 6, 2), (152, .bipush 61, 2), (154, .idiv, 1), (155, .invokevirtual 386, 3), (158, .ifCond .ne 6, 3), (161, .goto 86, 3), (164, .aload_n 0, 1), (165, .iload 7, 2), (167, .iload 6, 2), (169, .bipush 61, 2), (171, .idiv, 1), (172, .invokevirtual 390, 3), (175, .istore 8, 2), (177, .aload_n 0, 1), (178, .iload 7, 2), (180, .iload 6, 2), (182, .bipush 61, 2), (184, .irem, 1), (185, .iload 4, 2), (187, .invokevirtual 393, 3), (190, .istore 9, 2), (192, .iload 8, 2), (194, .iload_n 2, 1), (195, .iand, 1), (196, .iload_n 2, 1), (197, .if_icmp .ne 12, 3), (200, .iload 8, 2), (202, .iload_n 3, 1), (203, .iand, 1), (204, .ifCond .ne 5, 3), (207, .iconst 1, 1), (208, .ireturn, 1), (209, .aload_n 0, 1), (210, .iload_n 1, 1), (211, .aload_n 0, 1), (212, .getfield 111, 3), (215, .bipush 9, 2), (217, .iload_n 1, 1), (218, .iadd, 1), (219, .iaload, 1), (220, .iload 8, 2), (222, .iload 9, 2), (224, .iload 4, 2), (226, .invokevirtual 396, 3), (229, .ifCond .ne 18, 3), (232, .aload_n 0, 1), (233, .iload 8, 2), (235, .iload 9, 2), (237, .invokestatic 437, 3), (240, .iload 6, 2), (242, .iload 7, 2), (244, .invokevirtual 440, 3), (247, .iinc 7 1, 3), (250, .goto (-112), 3), (253, .iinc 5 1, 3), (256, .goto (-139), 3), (259, .iconst 0, 1), (260, .ireturn, 1)]
set_option maxRecDepth 100000 in
theorem sa_kv282 : ∀ q ∈ sa_k282, decode cX12_canBelieve q.1 = .ok q.2 ∧ sa_ln q.2.1 q.2.2 = true := by decide +kernel
set_option maxRecDepth 100000 in
def sa_k283 : List (Nat × Instr × Nat) := [(0, .aload_n 0, 1), (1, .iconst 0, 1), (2, .putfield 172, 3), (5, .aload_n 0, 1), (6, .aload_n 0, 1), (7, .iconst 0, 1), (8, .iconst 1, 1), (9, .invokevirtual 380, 3), (12, .invokevirtual 383, 3), (15, .istore_n 1, 1), (16, .iconst (-1), 1), (17, .istore_n 2, 1), (18, .ldc_w 450, 3), (21, .istore_n 3, 1), (22, .iconst 0, 1), (23, .istore 4, 2), (25, .iload 4, 2), (27, .aload_n 0, 1), (28, .getfield 338, 3), (31, .if_icmp .ge 52, 3), (34, .aload_n 0, 1), (35, .getfield 111, 3), (38, .bipush 21, 2), (40, .iload 4, 2), (42, .iadd, 1), (43, .iaload, 1), (44, .ifCond .ne 13, 3), (47, .aload_n 0, 1), (48, .iload 4, 2), (50, .iload_n 1, 1), (51, .invokevirtual 451, 3), (54, .goto 6, 3), (57, .ldc_w 450, 3), (60, .istore 5, 2), (62, .iload 5, 2), (64, .iload_n 3, 1), (65, .if_icmp .lt 6, 3), (68, .goto 9, 3), (71, .iload 4, 2), (73, .istore_n 2, 1), (74, .iload 5, 2), (76, .istore_n 3, 1), (77, .iinc 4 1, 3), (80, .goto (-55), 3), (83, .iload_n 2, 1), (84, .ireturn, 1)]
set_option maxRecDepth 100000 in
theorem sa_kv283 : ∀ q ∈ sa_k283, decode cX12_nearest q.1 = .ok q.2 ∧ sa_ln q.2.1 q.2.2 = true := by decide +kernel
set_option maxRecDepth 100000 in
def sa_k284 : List (Nat × Instr × Nat) := [(0, .aload_n 0, 1), (1, .iconst 0, 1), (2, .iconst 1, 1), (3, .invokevirtual 380, 3), (6, .istore_n 2, 1), (7, .iload_n 1, 1), (8, .istore_n 3, 1), (9, .iload_n 3, 1), (10, .ifCond .lt 148, 3), (13, .iload_n 3, 1), (14, .iload_n 1, 1), (15, .iconst (-1), 1), (16, .ixor, 1), (17, .iand, 1), (18, .ifCond .eq 6, 3), (21, .goto 131, 3), (24, .aload_n 0, 1), (25, .getfield 144, 3), (28, .iload_n 3, 1), (29, .iload_n 3, 1), (30, .iload_n 1, 1), (31, .if_icmp .ne 7, 3), (34, .iconst 0, 1), (35, .goto 6, 3), (38, .ldc_w 450, 3), (41, .iastore, 1), (42, .iconst 0, 1), (43, .istore 4, 2), (45, .iload 4, 2), (47, .aload_n 0, 1), (48, .getfield 338, 3), (51, .if_icmp .ge 101, 3), (54, .iload_n 1, 1), (55, .iload 4, 2), (57, .ishr, 1), (58, .iconst 1, 1), (59, .iand, 1), (60, .ifCond .eq 86, 3), (63, .iload_n 3, 1), (64, .iload 4, 2), (66, .ishr, 1), (67, .iconst 1, 1), (68, .iand, 1), (69, .iconst 1, 1), (70, .if_icmp .ne 6, 3), (73, .goto 73, 3), (76, .aload_n 0, 1), (77, .getfield 147, 3), (80, .bipush 6, 2), (82, .iload_n 3, 1), (83, .imul, 1), (84, .iload 4, 2), (86, .iadd, 1), (87, .aload_n 0, 1), (88, .iload 4, 2), (90, .aload_n 0, 1), (91, .iload_n 2, 1), (92, .iload_n 3, 1), (93, .ior, 1), (94, .invokevirtual 383, 3), (97, .invokevirtual 451, 3), (100, .iastore, 1), (101, .aload_n 0, 1), (102, .getfield 144, 3), (105, .iload_n 3, 1), (106, .aload_n 0, 1), (107, .getfield 144, 3), (110, .iload_n 3, 1), (111, .iaload, 1), (112, .ldc_w 450, 3), (115, .aload_n 0, 1), (116, .getfield 147, 3), (119, .bipush 6, 2), (121, .iload_n 3, 1), (122, .imul, 1), (123, .iload 4, 2), (125, .iadd, 1), (126, .iaload, 1), (127, .aload_n 0, 1), (128, .getfield 144, 3), (131, .iload_n 3, 1), (132, .iconst 1, 1), (133, .iload 4, 2), (135, .ishl, 1), (136, .ior, 1), (137, .iaload, 1), (138, .iadd, 1), (139, .invokestatic 377, 3), (142, .invokestatic 377, 3), (145, .iastore, 1), (146, .iinc 4 1, 3), (149, .goto (-104), 3), (152, .iinc 3 (-1), 3), (155, .goto (-146), 3), (158, .return_, 1)]
set_option maxRecDepth 100000 in
theorem sa_kv284 : ∀ q ∈ sa_k284, decode cX12_laysOrder q.1 = .ok q.2 ∧ sa_ln q.2.1 q.2.2 = true := by decide +kernel
set_option maxRecDepth 100000 in
def sa_k285 : List (Nat × Instr × Nat) := [(0, .aload_n 0, 1), (1, .iconst 0, 1), (2, .putfield 172, 3), (5, .aload_n 0, 1), (6, .iconst 0, 1), (7, .iconst 0, 1), (8, .invokevirtual 380, 3), (11, .istore_n 2, 1), (12, .aload_n 0, 1), (13, .iload_n 1, 1), (14, .iconst (-1), 1), (15, .if_icmp .lt 15, 3), (18, .iload_n 1, 1), (19, .iload_n 2, 1), (20, .invokestatic 371, 3), (23, .if_icmp .ge 7, 3), (26, .iconst 1, 1), (27, .goto 4, 3), (30, .iconst 0, 1), (31, .iconst 1, 1), (32, .invokevirtual 331, 3), (35, .ifCond .ne 5, 3), (38, .iconst 0, 1), (39, .ireturn, 1), (40, .aload_n 0, 1), (41, .iload_n 2, 1), (42, .invokevirtual 464, 3), (45, .aload_n 0, 1), (46, .getfield 144, 3), (49, .iconst 0, 1), (50, .iaload, 1), (51, .ldc_w 450, 3), (54, .if_icmp .lt 6, 3), (57, .bipush (-2), 2), (59, .ireturn, 1), (60, .iload_n 1, 1), (61, .iconst (-1), 1), (62, .if_icmp .ne 10, 3), (65, .aload_n 0, 1), (66, .getfield 144, 3), (69, .iconst 0, 1), (70, .iaload, 1), (71, .ireturn, 1), (72, .iconst 0, 1), (73, .istore_n 3, 1), (74, .iconst (-1), 1), (75, .istore 4, 2), (77, .iconst 0, 1), (78, .istore 5, 2), (80, .iload 5, 2), (82, .iload_n 1, 1), (83, .if_icmp .gt 94, 3), (86, .iconst (-1), 1), (87, .istore 4, 2), (89, .aload_n 0, 1), (90, .getfield 338, 3), (93, .iconst 1, 1), (94, .isub, 1), (95, .istore 6, 2), (97, .iload 6, 2), (99, .ifCond .lt 65, 3), (102, .iload_n 2, 1), (103, .iload 6, 2), (105, .ishr, 1), (106, .iconst 1, 1), (107, .iand, 1), (108, .iconst 1, 1), (109, .if_icmp .ne 49, 3), (112, .iload_n 3, 1), (113, .iload 6, 2), (115, .ishr, 1), (116, .iconst 1, 1), (117, .iand, 1), (118, .ifCond .ne 40, 3), (121, .aload_n 0, 1), (122, .getfield 147, 3), (125, .bipush 6, 2), (127, .iload_n 3, 1), (128, .imul, 1), (129, .iload 6, 2), (131, .iadd, 1), (132, .iaload, 1), (133, .aload_n 0, 1), (134, .getfield 144, 3), (137, .iload_n 3, 1), (138, .iconst 1, 1), (139, .iload 6, 2), (141, .ishl, 1), (142, .ior, 1), (143, .iaload, 1), (144, .iadd, 1), (145, .aload_n 0, 1), (146, .getfield 144, 3), (149, .iload_n 3, 1), (150, .iaload, 1), (151, .if_icmp .ne 7, 3), (154, .iload 6, 2), (156, .istore 4, 2), (158, .iinc 6 (-1), 3), (161, .goto (-64), 3), (164, .iload_n 3, 1), (165, .iconst 1, 1), (166, .iload 4, 2), (168, .ishl, 1), (169, .ior, 1), (170, .istore_n 3, 1), (171, .iinc 5 1, 3), (174, .goto (-94), 3), (177, .iload 4, 2), (179, .ireturn, 1)]
set_option maxRecDepth 100000 in
theorem sa_kv285 : ∀ q ∈ sa_k285, decode cX12_order q.1 = .ok q.2 ∧ sa_ln q.2.1 q.2.2 = true := by decide +kernel
set_option maxRecDepth 100000 in
def sa_k286 : List (Nat × Instr × Nat) := [(0, .iconst 0, 1), (1, .istore_n 2, 1), (2, .iload_n 2, 1), (3, .iload_n 1, 1), (4, .if_icmp .ge 15, 3), (7, .aload_n 0, 1), (8, .bipush 27, 2), (10, .invokevirtual 431, 3), (13, .iinc 2 1, 3), (16, .goto (-14), 3), (19, .return_, 1)]
set_option maxRecDepth 100000 in
theorem sa_kv286 : ∀ q ∈ sa_k286, decode cX12_daysGo q.1 = .ok q.2 ∧ sa_ln q.2.1 q.2.2 = true := by decide +kernel
set_option maxRecDepth 100000 in
def sa_k287 : List (Nat × Instr × Nat) := [(0, .aload_n 0, 1), (1, .iconst 0, 1), (2, .putfield 172, 3), (5, .aload_n 0, 1), (6, .iload_n 1, 1), (7, .iconst 0, 1), (8, .bipush 60, 2), (10, .invokestatic 403, 3), (13, .iconst 1, 1), (14, .invokevirtual 331, 3), (17, .ifCond .ne 5, 3), (20, .iconst 0, 1), (21, .ireturn, 1), (22, .aload_n 0, 1), (23, .invokevirtual 467, 3), (26, .aload_n 0, 1), (27, .iload_n 1, 1), (28, .invokevirtual 470, 3), (31, .aload_n 0, 1), (32, .bipush 27, 2), (34, .iconst 2, 1), (35, .invokevirtual 380, 3), (38, .ireturn, 1)]
set_option maxRecDepth 100000 in
theorem sa_kv287 : ∀ q ∈ sa_k287, decode cX12_stolen q.1 = .ok q.2 ∧ sa_ln q.2.1 q.2.2 = true := by decide +kernel
set_option maxRecDepth 100000 in
def sa_k288 : List (Nat × Instr × Nat) := [(0, .aload_n 0, 1), (1, .iconst 0, 1), (2, .putfield 172, 3), (5, .aload_n 0, 1), (6, .iload_n 1, 1), (7, .invokevirtual 407, 3), (10, .ifCond .eq 18, 3), (13, .aload_n 0, 1), (14, .iload_n 2, 1), (15, .iconst 0, 1), (16, .bipush 60, 2), (18, .invokestatic 403, 3), (21, .iconst 2, 1), (22, .invokevirtual 331, 3), (25, .ifCond .ne 5, 3), (28, .iconst 0, 1), (29, .ireturn, 1), (30, .aload_n 0, 1), (31, .invokevirtual 467, 3), (34, .aload_n 0, 1), (35, .iload_n 2, 1), (36, .invokevirtual 470, 3), (39, .aload_n 0, 1), (40, .getfield 111, 3), (43, .bipush 42, 2), (45, .iload_n 1, 1), (46, .iadd, 1), (47, .iaload, 1), (48, .ireturn, 1)]
set_option maxRecDepth 100000 in
theorem sa_kv288 : ∀ q ∈ sa_k288, decode cX12_cord q.1 = .ok q.2 ∧ sa_ln q.2.1 q.2.2 = true := by decide +kernel
set_option maxRecDepth 100000 in
def sa_k289 : List (Nat × Instr × Nat) := [(0, .aload_n 0, 1), (1, .iconst 0, 1), (2, .putfield 172, 3), (5, .aload_n 0, 1), (6, .iload_n 1, 1), (7, .invokevirtual 407, 3), (10, .ifCond .ne 5, 3), (13, .iconst 0, 1), (14, .ireturn, 1), (15, .aload_n 0, 1), (16, .invokevirtual 467, 3), (19, .iconst 0, 1), (20, .istore_n 2, 1), (21, .iload_n 2, 1), (22, .bipush 60, 2), (24, .if_icmp .gt 30, 3), (27, .aload_n 0, 1), (28, .getfield 111, 3), (31, .bipush 48, 2), (33, .iload_n 1, 1), (34, .iadd, 1), (35, .iaload, 1), (36, .iconst 2, 1), (37, .if_icmp .ne 5, 3), (40, .iload_n 2, 1), (41, .ireturn, 1), (42, .aload_n 0, 1), (43, .bipush 27, 2), (45, .invokevirtual 431, 3), (48, .iinc 2 1, 3), (51, .goto (-30), 3), (54, .iconst (-1), 1), (55, .ireturn, 1)]
set_option maxRecDepth 100000 in
theorem sa_kv289 : ∀ q ∈ sa_k289, decode cX12_when q.1 = .ok q.2 ∧ sa_ln q.2.1 q.2.2 = true := by decide +kernel
set_option maxRecDepth 100000 in
def sa_k290 : List (Nat × Instr × Nat) := [(0, .aload_n 0, 1), (1, .invokevirtual 467, 3), (4, .aload_n 0, 1), (5, .getfield 111, 3), (8, .bipush 29, 2), (10, .iload_n 1, 1), (11, .iastore, 1), (12, .aload_n 0, 1), (13, .iload_n 2, 1), (14, .invokevirtual 470, 3), (17, .iconst 0, 1), (18, .istore_n 3, 1), (19, .iconst 0, 1), (20, .istore 4, 2), (22, .iload 4, 2), (24, .aload_n 0, 1), (25, .getfield 338, 3), (28, .if_icmp .ge 37, 3), (31, .iload_n 3, 1), (32, .aload_n 0, 1), (33, .getfield 111, 3), (36, .bipush 48, 2), (38, .iload 4, 2), (40, .iadd, 1), (41, .iaload, 1), (42, .iconst 1, 1), (43, .if_icmp .ne 13, 3), (46, .aload_n 0, 1), (47, .getfield 17, 3), (50, .iload 4, 2), (52, .iaload, 1), (53, .goto 4, 3), (56, .iconst 0, 1), (57, .iadd, 1), (58, .istore_n 3, 1), (59, .iinc 4 1, 3), (62, .goto (-40), 3), (65, .iload_n 3, 1), (66, .ireturn, 1)]
set_option maxRecDepth 100000 in
theorem sa_kv290 : ∀ q ∈ sa_k290, decode cX12_keptBy q.1 = .ok q.2 ∧ sa_ln q.2.1 q.2.2 = true := by decide +kernel
set_option maxRecDepth 100000 in
def sa_k291 : List (Nat × Instr × Nat) := [(0, .aload_n 0, 1), (1, .iconst 0, 1), (2, .putfield 172, 3), (5, .aload_n 0, 1), (6, .iload_n 1, 1), (7, .iconst 1, 1), (8, .bipush 60, 2), (10, .invokestatic 403, 3), (13, .iconst 1, 1), (14, .invokevirtual 331, 3), (17, .ifCond .ne 5, 3), (20, .iconst 0, 1), (21, .ireturn, 1), (22, .iconst (-1), 1), (23, .istore_n 2, 1), (24, .aload_n 0, 1), (25, .iconst (-1), 1), (26, .iload_n 1, 1), (27, .invokevirtual 473, 3), (30, .istore_n 3, 1), (31, .iconst 0, 1), (32, .istore 4, 2), (34, .iload 4, 2), (36, .aload_n 0, 1), (37, .getfield 338, 3), (40, .if_icmp .ge 50, 3), (43, .aload_n 0, 1), (44, .getfield 111, 3), (47, .bipush 21, 2), (49, .iload 4, 2), (51, .iadd, 1), (52, .iaload, 1), (53, .iconst 1, 1), (54, .if_icmp .eq 6, 3), (57, .goto 27, 3), (60, .aload_n 0, 1), (61, .iload 4, 2), (63, .iload_n 1, 1), (64, .invokevirtual 473, 3), (67, .istore 5, 2), (69, .iload 5, 2), (71, .iload_n 3, 1), (72, .if_icmp .gt 6, 3), (75, .goto 9, 3), (78, .iload 4, 2), (80, .istore_n 2, 1), (81, .iload 5, 2), (83, .istore_n 3, 1), (84, .iinc 4 1, 3), (87, .goto (-53), 3), (90, .iload_n 2, 1), (91, .ireturn, 1)]
set_option maxRecDepth 100000 in
theorem sa_kv291 : ∀ q ∈ sa_k291, decode cX12_toGuard q.1 = .ok q.2 ∧ sa_ln q.2.1 q.2.2 = true := by decide +kernel
set_option maxRecDepth 100000 in
def sa_k292 : List (Nat × Instr × Nat) := [(0, .iload_n 1, 1), (1, .ifCond .lt 17, 3), (4, .iload_n 1, 1), (5, .iconst 1, 1), (6, .aload_n 0, 1), (7, .getfield 338, 3), (10, .ishl, 1), (11, .if_icmp .ge 7, 3), (14, .iconst 1, 1), (15, .goto 4, 3), (18, .iconst 0, 1), (19, .ireturn, 1)]
set_option maxRecDepth 100000 in
theorem sa_kv292 : ∀ q ∈ sa_k292, decode cX12_isSet q.1 = .ok q.2 ∧ sa_ln q.2.1 q.2.2 = true := by decide +kernel
set_option maxRecDepth 100000 in
def sa_k293 : List (Nat × Instr × Nat) := [(0, .iconst 0, 1), (1, .istore_n 3, 1), (2, .iconst 0, 1), (3, .istore 4, 2), (5, .iload 4, 2), (7, .aload_n 0, 1), (8, .getfield 344, 3), (11, .if_icmp .ge 99, 3), (14, .aload_n 0, 1), (15, .getfield 44, 3), (18, .iload 4, 2), (20, .iaload, 1), (21, .iload_n 2, 1), (22, .if_icmp .lt 7, 3), (25, .iconst 1, 1), (26, .goto 4, 3), (29, .iconst 0, 1), (30, .istore 5, 2), (32, .iconst 0, 1), (33, .istore 6, 2), (35, .iload 6, 2), (37, .aload_n 0, 1), (38, .getfield 338, 3), (41, .if_icmp .ge 47, 3), (44, .iload 5, 2), (46, .ifCond .eq 33, 3), (49, .iload_n 1, 1), (50, .iload 6, 2), (52, .ishr, 1), (53, .iconst 1, 1), (54, .iand, 1), (55, .ifCond .eq 20, 3), (58, .aload_n 0, 1), (59, .getfield 41, 3), (62, .iload 4, 2), (64, .iaload, 1), (65, .aload_n 0, 1), (66, .getfield 13, 3), (69, .iload 6, 2), (71, .iaload, 1), (72, .if_icmp .lt 7, 3), (75, .iconst 1, 1), (76, .goto 4, 3), (79, .iconst 0, 1), (80, .istore 5, 2), (82, .iinc 6 1, 3), (85, .goto (-50), 3), (88, .iload_n 3, 1), (89, .iload 5, 2), (91, .ifCond .eq 10, 3), (94, .iconst 1, 1), (95, .iload 4, 2), (97, .ishl, 1), (98, .goto 4, 3), (101, .iconst 0, 1), (102, .ior, 1), (103, .istore_n 3, 1), (104, .iinc 4 1, 3), (107, .goto (-102), 3), (110, .iload_n 3, 1), (111, .ireturn, 1)]
set_option maxRecDepth 100000 in
theorem sa_kv293 : ∀ q ∈ sa_k293, decode cX12_payersOf q.1 = .ok q.2 ∧ sa_ln q.2.1 q.2.2 = true := by decide +kernel
set_option maxRecDepth 100000 in
def sa_k294 : List (Nat × Instr × Nat) := [(0, .aload_n 0, 1), (1, .iconst 0, 1), (2, .putfield 172, 3), (5, .aload_n 0, 1), (6, .aload_n 0, 1), (7, .iload_n 1, 1), (8, .invokevirtual 476, 3), (11, .ifCond .eq 18, 3), (14, .iload_n 2, 1), (15, .iconst 0, 1), (16, .sipush 999, 3), (19, .invokestatic 403, 3), (22, .ifCond .eq 7, 3), (25, .iconst 1, 1), (26, .goto 4, 3), (29, .iconst 0, 1), (30, .iconst 1, 1), (31, .invokevirtual 331, 3), (34, .ifCond .eq 12, 3), (37, .aload_n 0, 1), (38, .iload_n 1, 1), (39, .iload_n 2, 1), (40, .invokevirtual 479, 3), (43, .goto 4, 3), (46, .iconst 0, 1), (47, .ireturn, 1)]
set_option maxRecDepth 100000 in
theorem sa_kv294 : ∀ q ∈ sa_k294, decode cX12_payers q.1 = .ok q.2 ∧ sa_ln q.2.1 q.2.2 = true := by decide +kernel
set_option maxRecDepth 100000 in
def sa_k295 : List (Nat × Instr × Nat) := [(0, .aload_n 0, 1), (1, .iconst 0, 1), (2, .putfield 172, 3), (5, .aload_n 0, 1), (6, .aload_n 0, 1), (7, .iload_n 1, 1), (8, .invokevirtual 476, 3), (11, .ifCond .eq 16, 3), (14, .iload_n 2, 1), (15, .iconst 0, 1), (16, .iconst 5, 1), (17, .invokestatic 403, 3), (20, .ifCond .eq 7, 3), (23, .iconst 1, 1), (24, .goto 4, 3), (27, .iconst 0, 1), (28, .iconst 1, 1), (29, .invokevirtual 331, 3), (32, .ifCond .ne 5, 3), (35, .iconst 0, 1), (36, .ireturn, 1), (37, .iconst 0, 1), (38, .istore_n 3, 1), (39, .iload_n 3, 1), (40, .sipush 999, 3), (43, .if_icmp .gt 24, 3), (46, .aload_n 0, 1), (47, .iload_n 1, 1), (48, .iload_n 3, 1), (49, .invokevirtual 479, 3), (52, .invokestatic 371, 3), (55, .iload_n 2, 1), (56, .if_icmp .gt 5, 3), (59, .iload_n 3, 1), (60, .ireturn, 1), (61, .iinc 3 1, 3), (64, .goto (-25), 3), (67, .iconst (-1), 1), (68, .ireturn, 1)]
set_option maxRecDepth 100000 in
theorem sa_kv295 : ∀ q ∈ sa_k295, decode cX12_few q.1 = .ok q.2 ∧ sa_ln q.2.1 q.2.2 = true := by decide +kernel
set_option maxRecDepth 100000 in
def sa_k296 : List (Nat × Instr × Nat) := [(0, .iconst 0, 1), (1, .istore_n 2, 1), (2, .iconst 0, 1), (3, .istore_n 3, 1), (4, .iload_n 3, 1), (5, .aload_n 0, 1), (6, .getfield 347, 3), (9, .if_icmp .ge 31, 3), (12, .iload_n 2, 1), (13, .iload_n 1, 1), (14, .iload_n 3, 1), (15, .ishr, 1), (16, .iconst 1, 1), (17, .iand, 1), (18, .iconst 1, 1), (19, .if_icmp .ne 12, 3), (22, .aload_n 0, 1), (23, .getfield 47, 3), (26, .iload_n 3, 1), (27, .iaload, 1), (28, .goto 4, 3), (31, .iconst 0, 1), (32, .ior, 1), (33, .istore_n 2, 1), (34, .iinc 3 1, 3), (37, .goto (-33), 3), (40, .iload_n 2, 1), (41, .ireturn, 1)]
set_option maxRecDepth 100000 in
theorem sa_kv296 : ∀ q ∈ sa_k296, decode cX12_partsOf q.1 = .ok q.2 ∧ sa_ln q.2.1 q.2.2 = true := by decide +kernel
set_option maxRecDepth 100000 in
def sa_k297 : List (Nat × Instr × Nat) := [(0, .aload_n 0, 1), (1, .iconst 0, 1), (2, .putfield 172, 3), (5, .iconst 1, 1), (6, .aload_n 0, 1), (7, .getfield 347, 3), (10, .ishl, 1), (11, .iconst 1, 1), (12, .isub, 1), (13, .istore_n 1, 1), (14, .iload_n 1, 1), (15, .istore_n 2, 1), (16, .iconst 0, 1), (17, .istore_n 3, 1), (18, .iload_n 3, 1), (19, .iload_n 1, 1), (20, .if_icmp .gt 51, 3), (23, .aload_n 0, 1), (24, .iload_n 3, 1), (25, .invokevirtual 482, 3), (28, .aload_n 0, 1), (29, .iload_n 1, 1), (30, .invokevirtual 482, 3), (33, .if_icmp .ne 32, 3), (36, .iload_n 3, 1), (37, .invokestatic 371, 3), (40, .iload_n 2, 1), (41, .invokestatic 371, 3), (44, .if_icmp .lt 19, 3), (47, .iload_n 3, 1), (48, .invokestatic 371, 3), (51, .iload_n 2, 1), (52, .invokestatic 371, 3), (55, .if_icmp .ne 10, 3), (58, .iload_n 3, 1), (59, .iload_n 2, 1), (60, .if_icmp .ge 5, 3), (63, .iload_n 3, 1), (64, .istore_n 2, 1), (65, .iinc 3 1, 3), (68, .goto (-50), 3), (71, .iload_n 2, 1), (72, .ireturn, 1)]
set_option maxRecDepth 100000 in
theorem sa_kv297 : ∀ q ∈ sa_k297, decode cX12_tellers q.1 = .ok q.2 ∧ sa_ln q.2.1 q.2.2 = true := by decide +kernel
set_option maxRecDepth 100000 in
def sa_k298 : List (Nat × Instr × Nat) := [(0, .aload_n 0, 1), (1, .iconst 0, 1), (2, .putfield 172, 3), (5, .aload_n 0, 1), (6, .iload_n 1, 1), (7, .ifCond .lt 24, 3), (10, .iload_n 1, 1), (11, .aload_n 0, 1), (12, .getfield 347, 3), (15, .if_icmp .ge 16, 3), (18, .iload_n 2, 1), (19, .iconst 0, 1), (20, .iconst 1, 1), (21, .invokestatic 403, 3), (24, .ifCond .eq 7, 3), (27, .iconst 1, 1), (28, .goto 4, 3), (31, .iconst 0, 1), (32, .iconst 1, 1), (33, .invokevirtual 331, 3), (36, .ifCond .ne 5, 3), (39, .iconst 0, 1), (40, .ireturn, 1), (41, .iconst (-1), 1), (42, .istore_n 3, 1), (43, .iconst 0, 1), (44, .istore 4, 2), (46, .iconst 0, 1), (47, .istore 5, 2), (49, .iload 5, 2), (51, .iload_n 1, 1), (52, .if_icmp .ge 45, 3), (55, .aload_n 0, 1), (56, .getfield 47, 3), (59, .iload 5, 2), (61, .iaload, 1), (62, .aload_n 0, 1), (63, .getfield 47, 3), (66, .iload_n 1, 1), (67, .iaload, 1), (68, .iand, 1), (69, .invokestatic 371, 3), (72, .istore 6, 2), (74, .iload 6, 2), (76, .iload 4, 2), (78, .if_icmp .gt 6, 3), (81, .goto 10, 3), (84, .iload 5, 2), (86, .istore_n 3, 1), (87, .iload 6, 2), (89, .istore 4, 2), (91, .iinc 5 1, 3), (94, .goto (-45), 3), (97, .iload_n 2, 1), (98, .ifCond .ne 8, 3), (101, .iload 4, 2), (103, .goto 4, 3), (106, .iload_n 3, 1), (107, .ireturn, 1)]
set_option maxRecDepth 100000 in
theorem sa_kv298 : ∀ q ∈ sa_k298, decode cX12_borrowed q.1 = .ok q.2 ∧ sa_ln q.2.1 q.2.2 = true := by decide +kernel
set_option maxRecDepth 100000 in
def sa_k299 : List (Nat × Instr × Nat) := [(0, .aload_n 0, 1), (1, .iconst 0, 1), (2, .putfield 172, 3), (5, .aload_n 0, 1), (6, .iload_n 1, 1), (7, .invokevirtual 407, 3), (10, .ifCond .eq 12, 3), (13, .aload_n 0, 1), (14, .iload_n 3, 1), (15, .iconst 5, 1), (16, .invokevirtual 410, 3), (19, .ifCond .ne 5, 3), (22, .iconst 0, 1), (23, .ireturn, 1), (24, .aload_n 0, 1), (25, .getfield 360, 3), (28, .bipush 8, 2), (30, .if_icmp .eq 12, 3), (33, .iload_n 2, 1), (34, .iconst 1, 1), (35, .iconst 4, 1), (36, .invokestatic 403, 3), (39, .ifCond .ne 9, 3), (42, .aload_n 0, 1), (43, .iconst 2, 1), (44, .invokevirtual 422, 3), (47, .ireturn, 1), (48, .aload_n 0, 1), (49, .getfield 150, 3), (52, .iconst 4, 1), (53, .aload_n 0, 1), (54, .getfield 360, 3), (57, .imul, 1), (58, .iload_n 1, 1), (59, .iastore, 1), (60, .aload_n 0, 1), (61, .getfield 150, 3), (64, .iconst 4, 1), (65, .aload_n 0, 1), (66, .getfield 360, 3), (69, .imul, 1), (70, .iconst 1, 1), (71, .iadd, 1), (72, .iload_n 2, 1), (73, .iastore, 1), (74, .aload_n 0, 1), (75, .getfield 150, 3), (78, .iconst 4, 1), (79, .aload_n 0, 1), (80, .getfield 360, 3), (83, .imul, 1), (84, .iconst 2, 1), (85, .iadd, 1), (86, .iload_n 3, 1), (87, .iastore, 1), (88, .aload_n 0, 1), (89, .getfield 150, 3), (92, .iconst 4, 1), (93, .aload_n 0, 1), (94, .getfield 360, 3), (97, .imul, 1), (98, .iconst 3, 1), (99, .iadd, 1), (100, .iload 4, 2), (102, .ifCond .eq 7, 3), (105, .iconst 1, 1), (106, .goto 4, 3), (109, .iconst 0, 1), (110, .iastore, 1), (111, .aload_n 0, 1), (112, .dup, 1), (113, .getfield 360, 3), (116, .iconst 1, 1), (117, .iadd, 1), (118, .putfield 360, 3), (121, .aload_n 0, 1), (122, .getfield 360, 3), (125, .ireturn, 1)]
set_option maxRecDepth 100000 in
theorem sa_kv299 : ∀ q ∈ sa_k299, decode cX12_mark q.1 = .ok q.2 ∧ sa_ln q.2.1 q.2.2 = true := by decide +kernel
set_option maxRecDepth 100000 in
def sa_k300 : List (Nat × Instr × Nat) := [(0, .aload_n 0, 1), (1, .iconst 0, 1), (2, .putfield 172, 3), (5, .aload_n 0, 1), (6, .iconst 0, 1), (7, .putfield 360, 3), (10, .return_, 1)]
set_option maxRecDepth 100000 in
theorem sa_kv300 : ∀ q ∈ sa_k300, decode cX12_forget q.1 = .ok q.2 ∧ sa_ln q.2.1 q.2.2 = true := by decide +kernel
set_option maxRecDepth 100000 in
def sa_k301 : List (Nat × Instr × Nat) := [(0, .iconst 1, 1), (1, .istore_n 2, 1), (2, .iconst 0, 1), (3, .istore_n 3, 1), (4, .iload_n 3, 1), (5, .iload_n 1, 1), (6, .if_icmp .ge 13, 3), (9, .iload_n 0, 1), (10, .iload_n 2, 1), (11, .imul, 1), (12, .istore_n 2, 1), (13, .iinc 3 1, 3), (16, .goto (-12), 3), (19, .iload_n 2, 1), (20, .ireturn, 1)]
set_option maxRecDepth 100000 in
theorem sa_kv301 : ∀ q ∈ sa_k301, decode cX12_power q.1 = .ok q.2 ∧ sa_ln q.2.1 q.2.2 = true := by decide +kernel
set_option maxRecDepth 100000 in
def sa_k302 : List (Nat × Instr × Nat) := [(0, .iload_n 3, 1), (1, .istore 4, 2), (3, .iload_n 2, 1), (4, .iconst 1, 1), (5, .isub, 1), (6, .istore 5, 2), (8, .iload 5, 2), (10, .ifCond .lt 32, 3), (13, .aload_n 0, 1), (14, .getfield 156, 3), (17, .iload 5, 2), (19, .iload 4, 2), (21, .aload_n 0, 1), (22, .getfield 341, 3), (25, .irem, 1), (26, .iastore, 1), (27, .iload 4, 2), (29, .aload_n 0, 1), (30, .getfield 341, 3), (33, .idiv, 1), (34, .istore 4, 2), (36, .iinc 5 (-1), 3), (39, .goto (-31), 3), (42, .aload_n 0, 1), (43, .getfield 153, 3), (46, .iconst 0, 1), (47, .aload_n 0, 1), (48, .getfield 111, 3), (51, .iconst 3, 1), (52, .iload_n 1, 1), (53, .iadd, 1), (54, .iaload, 1), (55, .iastore, 1), (56, .iconst 1, 1), (57, .istore 5, 2), (59, .iload 5, 2), (61, .iload_n 2, 1), (62, .if_icmp .gt 75, 3), (65, .aload_n 0, 1), (66, .getfield 153, 3), (69, .iload 5, 2), (71, .aload_n 0, 1), (72, .aload_n 0, 1), (73, .getfield 156, 3), (76, .iload 5, 2), (78, .iconst 1, 1), (79, .isub, 1), (80, .iaload, 1), (81, .aload_n 0, 1), (82, .getfield 153, 3), (85, .iload 5, 2), (87, .iconst 1, 1), (88, .isub, 1), (89, .iaload, 1), (90, .invokevirtual 386, 3), (93, .ifCond .eq 28, 3), (96, .aload_n 0, 1), (97, .aload_n 0, 1), (98, .getfield 156, 3), (101, .iload 5, 2), (103, .iconst 1, 1), (104, .isub, 1), (105, .iaload, 1), (106, .aload_n 0, 1), (107, .getfield 153, 3), (110, .iload 5, 2), (112, .iconst 1, 1), (113, .isub, 1), (114, .iaload, 1), (115, .invokevirtual 390, 3), (118, .goto 12, 3), (121, .aload_n 0, 1), (122, .getfield 153, 3), (125, .iload 5, 2), (127, .iconst 1, 1), (128, .isub, 1), (129, .iaload, 1), (130, .iastore, 1), (131, .iinc 5 1, 3), (134, .goto (-75), 3), (137, .iconst 0, 1), (138, .istore 5, 2), (140, .iload 5, 2), (142, .aload_n 0, 1), (143, .getfield 360, 3), (146, .if_icmp .ge 86, 3), (149, .aload_n 0, 1), (150, .getfield 150, 3), (153, .iconst 4, 1), (154, .iload 5, 2), (156, .imul, 1), (157, .iaload, 1), (158, .iload_n 1, 1), (159, .if_icmp .ne 67, 3), (162, .aload_n 0, 1), (163, .getfield 150, 3), (166, .iconst 4, 1), (167, .iload 5, 2), (169, .imul, 1), (170, .iconst 1, 1), (171, .iadd, 1), (172, .iaload, 1), (173, .iload_n 2, 1), (174, .if_icmp .le 6, 3), (177, .goto 49, 3), (180, .aload_n 0, 1), (181, .getfield 153, 3), (184, .aload_n 0, 1), (185, .getfield 150, 3), (188, .iconst 4, 1), (189, .iload 5, 2), (191, .imul, 1), (192, .iconst 1, 1), (193, .iadd, 1), (194, .iaload, 1), (195, .iaload, 1), (196, .aload_n 0, 1), (197, .getfield 150, 3), (200, .iconst 4, 1), (201, .iload 5, 2), (203, .imul, 1), (204, .iconst 2, 1), (205, .iadd, 1), (206, .iaload, 1), (207, .ishr, 1), (208, .iconst 1, 1), (209, .iand, 1), (210, .aload_n 0, 1), (211, .getfield 150, 3), (214, .iconst 4, 1), (215, .iload 5, 2), (217, .imul, 1), (218, .iconst 3, 1), (219, .iadd, 1), (220, .iaload, 1), (221, .if_icmp .eq 5, 3), (224, .iconst 0, 1), (225, .ireturn, 1), (226, .iinc 5 1, 3), (229, .goto (-89), 3), (232, .iconst 1, 1), (233, .ireturn, 1)]
set_option maxRecDepth 100000 in
theorem sa_kv302 : ∀ q ∈ sa_k302, decode cX12_isMarked q.1 = .ok q.2 ∧ sa_ln q.2.1 q.2.2 = true := by decide +kernel
set_option maxRecDepth 100000 in
def sa_k303 : List (Nat × Instr × Nat) := [(0, .iconst 0, 1), (1, .istore_n 2, 1), (2, .iconst 0, 1), (3, .istore_n 3, 1), (4, .iload_n 3, 1), (5, .iload_n 1, 1), (6, .if_icmp .ge 21, 3), (9, .bipush 10, 2), (11, .iload_n 2, 1), (12, .imul, 1), (13, .aload_n 0, 1), (14, .getfield 156, 3), (17, .iload_n 3, 1), (18, .iaload, 1), (19, .iadd, 1), (20, .istore_n 2, 1), (21, .iinc 3 1, 3), (24, .goto (-20), 3), (27, .iload_n 2, 1), (28, .ireturn, 1)]
set_option maxRecDepth 100000 in
theorem sa_kv303 : ∀ q ∈ sa_k303, decode cX12_rowNumber q.1 = .ok q.2 ∧ sa_ln q.2.1 q.2.2 = true := by decide +kernel
end
section
set_option maxRecDepth 100000 in
def sa_k304 : List (Nat × Instr × Nat) := [(0, .aload_n 0, 1), (1, .iload_n 1, 1), (2, .iconst 1, 1), (3, .iconst 4, 1), (4, .invokestatic 403, 3), (7, .iconst 2, 1), (8, .invokevirtual 331, 3), (11, .ireturn, 1)]
set_option maxRecDepth 100000 in
theorem sa_kv304 : ∀ q ∈ sa_k304, decode cX12_isTries q.1 = .ok q.2 ∧ sa_ln q.2.1 q.2.2 = true := by decide +kernel
set_option maxRecDepth 100000 in
def sa_k305 : List (Nat × Instr × Nat) := [(0, .aload_n 0, 1), (1, .iconst 0, 1), (2, .putfield 172, 3), (5, .aload_n 0, 1), (6, .iload_n 1, 1), (7, .invokevirtual 407, 3), (10, .ifCond .eq 20, 3), (13, .aload_n 0, 1), (14, .iload_n 3, 1), (15, .iconst 1, 1), (16, .invokevirtual 410, 3), (19, .ifCond .eq 11, 3), (22, .aload_n 0, 1), (23, .iload_n 2, 1), (24, .invokevirtual 485, 3), (27, .ifCond .ne 5, 3), (30, .iconst 0, 1), (31, .ireturn, 1), (32, .iconst 0, 1), (33, .istore 4, 2), (35, .iconst (-1), 1), (36, .istore 5, 2), (38, .iconst 0, 1), (39, .istore 6, 2), (41, .iload 6, 2), (43, .aload_n 0, 1), (44, .getfield 341, 3), (47, .iload_n 2, 1), (48, .invokestatic 488, 3), (51, .if_icmp .ge 39, 3), (54, .aload_n 0, 1), (55, .iload_n 1, 1), (56, .iload_n 2, 1), (57, .iload 6, 2), (59, .invokevirtual 491, 3), (62, .ifCond .ne 6, 3), (65, .goto 19, 3), (68, .iinc 4 1, 3), (71, .iload 5, 2), (73, .iconst (-1), 1), (74, .if_icmp .ne 10, 3), (77, .aload_n 0, 1), (78, .iload_n 2, 1), (79, .invokevirtual 494, 3), (82, .istore 5, 2), (84, .iinc 6 1, 3), (87, .goto (-46), 3), (90, .iload_n 3, 1), (91, .ifCond .ne 8, 3), (94, .iload 4, 2), (96, .goto 5, 3), (99, .iload 5, 2), (101, .ireturn, 1)]
set_option maxRecDepth 100000 in
theorem sa_kv305 : ∀ q ∈ sa_k305, decode cX12_how q.1 = .ok q.2 ∧ sa_ln q.2.1 q.2.2 = true := by decide +kernel
set_option maxRecDepth 100000 in
def sa_k306 : List (Nat × Instr × Nat) := [(0, .aload_n 0, 1), (1, .iconst 0, 1), (2, .putfield 172, 3), (5, .aload_n 0, 1), (6, .iload_n 1, 1), (7, .invokevirtual 407, 3), (10, .ifCond .eq 20, 3), (13, .aload_n 0, 1), (14, .iload_n 3, 1), (15, .iconst 1, 1), (16, .invokevirtual 410, 3), (19, .ifCond .eq 11, 3), (22, .aload_n 0, 1), (23, .iload_n 2, 1), (24, .invokevirtual 485, 3), (27, .ifCond .ne 5, 3), (30, .iconst 0, 1), (31, .ireturn, 1), (32, .iconst 1, 1), (33, .istore 4, 2), (35, .iload 4, 2), (37, .iconst 4, 1), (38, .if_icmp .gt 17, 3), (41, .aload_n 0, 1), (42, .getfield 159, 3), (45, .iload 4, 2), (47, .lconst 0, 1), (48, .lastore, 1), (49, .iinc 4 1, 3), (52, .goto (-17), 3), (55, .iconst 0, 1), (56, .istore 4, 2), (58, .iload 4, 2), (60, .aload_n 0, 1), (61, .getfield 341, 3), (64, .iload_n 2, 1), (65, .invokestatic 488, 3), (68, .if_icmp .ge 57, 3), (71, .aload_n 0, 1), (72, .iload_n 1, 1), (73, .iload_n 2, 1), (74, .iload 4, 2), (76, .invokevirtual 491, 3), (79, .ifCond .ne 6, 3), (82, .goto 37, 3), (85, .iconst 1, 1), (86, .istore 5, 2), (88, .iload 5, 2), (90, .iload_n 2, 1), (91, .if_icmp .gt 28, 3), (94, .aload_n 0, 1), (95, .getfield 159, 3), (98, .iload 5, 2), (100, .dup2, 1), (101, .laload, 1), (102, .lconst 1, 1), (103, .aload_n 0, 1), (104, .getfield 153, 3), (107, .iload 5, 2), (109, .iaload, 1), (110, .lshl, 1), (111, .lor, 1), (112, .lastore, 1), (113, .iinc 5 1, 3), (116, .goto (-28), 3), (119, .iinc 4 1, 3), (122, .goto (-64), 3), (125, .iconst (-1), 1), (126, .istore 4, 2), (128, .iconst 0, 1), (129, .istore 5, 2), (131, .iconst 1, 1), (132, .istore 6, 2), (134, .iload 6, 2), (136, .iload_n 2, 1), (137, .if_icmp .gt 73, 3), (140, .iconst 0, 1), (141, .istore 7, 2), (143, .iconst 0, 1), (144, .istore 8, 2), (146, .iload 8, 2), (148, .bipush 64, 2), (150, .if_icmp .ge 36, 3), (153, .iload 7, 2), (155, .aload_n 0, 1), (156, .getfield 159, 3), (159, .iload 6, 2), (161, .laload, 1), (162, .iload 8, 2), (164, .lshr, 1), (165, .lconst 1, 1), (166, .land, 1), (167, .lconst 1, 1), (168, .lcmp, 1), (169, .ifCond .ne 7, 3), (172, .iconst 1, 1), (173, .goto 4, 3), (176, .iconst 0, 1), (177, .iadd, 1), (178, .istore 7, 2), (180, .iinc 8 1, 3), (183, .goto (-37), 3), (186, .iload 7, 2), (188, .iload 5, 2), (190, .if_icmp .gt 6, 3), (193, .goto 11, 3), (196, .iload 6, 2), (198, .istore 4, 2), (200, .iload 7, 2), (202, .istore 5, 2), (204, .iinc 6 1, 3), (207, .goto (-73), 3), (210, .iload_n 3, 1), (211, .ifCond .ne 8, 3), (214, .iload 4, 2), (216, .goto 5, 3), (219, .iload 5, 2), (221, .ireturn, 1)]
set_option maxRecDepth 100000 in
theorem sa_kv306 : ∀ q ∈ sa_k306, decode cX12_next q.1 = .ok q.2 ∧ sa_ln q.2.1 q.2.2 = true := by decide +kernel
set_option maxRecDepth 100000 in
def sa_k307 : List (Nat × Instr × Nat) := [(0, .aload_n 0, 1), (1, .getfield 41, 3), (4, .iload_n 1, 1), (5, .iaload, 1), (6, .aload_n 0, 1), (7, .getfield 13, 3), (10, .iload_n 3, 1), (11, .iaload, 1), (12, .if_icmp .lt 7, 3), (15, .iconst 1, 1), (16, .goto 4, 3), (19, .iconst 0, 1), (20, .istore 6, 2), (22, .aload_n 0, 1), (23, .getfield 41, 3), (26, .iload_n 2, 1), (27, .iaload, 1), (28, .aload_n 0, 1), (29, .getfield 13, 3), (32, .iload_n 3, 1), (33, .iaload, 1), (34, .if_icmp .lt 7, 3), (37, .iconst 1, 1), (38, .goto 4, 3), (41, .iconst 0, 1), (42, .istore 7, 2), (44, .iload 4, 2), (46, .ifCond .ne 5, 3), (49, .iconst 2, 1), (50, .ireturn, 1), (51, .iload 6, 2), (53, .ifCond .ne 6, 3), (56, .bipush (-5), 2), (58, .ireturn, 1), (59, .iload 5, 2), (61, .ifCond .eq 8, 3), (64, .iload 7, 2), (66, .ifCond .ne 10, 3), (69, .aload_n 0, 1), (70, .getfield 17, 3), (73, .iload_n 3, 1), (74, .iaload, 1), (75, .ireturn, 1), (76, .aload_n 0, 1), (77, .getfield 41, 3), (80, .iload_n 1, 1), (81, .iaload, 1), (82, .aload_n 0, 1), (83, .getfield 41, 3), (86, .iload_n 2, 1), (87, .iaload, 1), (88, .if_icmp .le 15, 3), (91, .aload_n 0, 1), (92, .getfield 17, 3), (95, .iload_n 3, 1), (96, .iaload, 1), (97, .bipush 10, 2), (99, .isub, 1), (100, .goto 24, 3), (103, .aload_n 0, 1), (104, .getfield 41, 3), (107, .iload_n 1, 1), (108, .iaload, 1), (109, .aload_n 0, 1), (110, .getfield 41, 3), (113, .iload_n 2, 1), (114, .iaload, 1), (115, .if_icmp .ge 8, 3), (118, .bipush (-5), 2), (120, .goto 4, 3), (123, .iconst 0, 1), (124, .ireturn, 1)]
set_option maxRecDepth 100000 in
theorem sa_kv307 : ∀ q ∈ sa_k307, decode cX12_gains q.1 = .ok q.2 ∧ sa_ln q.2.1 q.2.2 = true := by decide +kernel
set_option maxRecDepth 100000 in
def sa_k308 : List (Nat × Instr × Nat) := [(0, .aload_n 0, 1), (1, .iconst 0, 1), (2, .putfield 172, 3), (5, .aload_n 0, 1), (6, .iload_n 1, 1), (7, .ifCond .lt 27, 3), (10, .iload_n 1, 1), (11, .aload_n 0, 1), (12, .getfield 344, 3), (15, .if_icmp .ge 19, 3), (18, .iload_n 2, 1), (19, .ifCond .lt 15, 3), (22, .iload_n 2, 1), (23, .aload_n 0, 1), (24, .getfield 344, 3), (27, .if_icmp .ge 7, 3), (30, .iconst 1, 1), (31, .goto 4, 3), (34, .iconst 0, 1), (35, .iconst 1, 1), (36, .invokevirtual 331, 3), (39, .ifCond .eq 39, 3), (42, .aload_n 0, 1), (43, .iload_n 3, 1), (44, .invokevirtual 407, 3), (47, .ifCond .eq 31, 3), (50, .aload_n 0, 1), (51, .iload 4, 2), (53, .iconst 1, 1), (54, .invokevirtual 410, 3), (57, .ifCond .eq 21, 3), (60, .aload_n 0, 1), (61, .iload_n 1, 1), (62, .iload_n 2, 1), (63, .if_icmp .eq 7, 3), (66, .iconst 1, 1), (67, .goto 4, 3), (70, .iconst 0, 1), (71, .iconst 2, 1), (72, .invokevirtual 331, 3), (75, .ifCond .ne 5, 3), (78, .iconst 0, 1), (79, .ireturn, 1), (80, .iconst 0, 1), (81, .istore 5, 2), (83, .iconst (-1), 1), (84, .istore 6, 2), (86, .iconst 0, 1), (87, .istore 7, 2), (89, .iload 7, 2), (91, .iconst 4, 1), (92, .if_icmp .ge 97, 3), (95, .iload 7, 2), (97, .iconst 2, 1), (98, .idiv, 1), (99, .istore 8, 2), (101, .iload 7, 2), (103, .iconst 2, 1), (104, .irem, 1), (105, .istore 9, 2), (107, .aload_n 0, 1), (108, .iload_n 1, 1), (109, .iload_n 2, 1), (110, .iload_n 3, 1), (111, .iconst 1, 1), (112, .iload 8, 2), (114, .isub, 1), (115, .iload 9, 2), (117, .invokevirtual 497, 3), (120, .aload_n 0, 1), (121, .iload_n 1, 1), (122, .iload_n 2, 1), (123, .iload_n 3, 1), (124, .iload 8, 2), (126, .iload 9, 2), (128, .invokevirtual 497, 3), (131, .if_icmp .gt 52, 3), (134, .aload_n 0, 1), (135, .iload_n 2, 1), (136, .iload_n 1, 1), (137, .iload_n 3, 1), (138, .iconst 1, 1), (139, .iload 9, 2), (141, .isub, 1), (142, .iload 8, 2), (144, .invokevirtual 497, 3), (147, .aload_n 0, 1), (148, .iload_n 2, 1), (149, .iload_n 1, 1), (150, .iload_n 3, 1), (151, .iload 9, 2), (153, .iload 8, 2), (155, .invokevirtual 497, 3), (158, .if_icmp .le 6, 3), (161, .goto 22, 3), (164, .iinc 5 1, 3), (167, .iload 6, 2), (169, .iconst (-1), 1), (170, .if_icmp .ne 13, 3), (173, .bipush 10, 2), (175, .iload 8, 2), (177, .imul, 1), (178, .iload 9, 2), (180, .iadd, 1), (181, .istore 6, 2), (183, .iinc 7 1, 3), (186, .goto (-97), 3), (189, .iload 4, 2), (191, .ifCond .ne 8, 3), (194, .iload 5, 2), (196, .goto 5, 3), (199, .iload 6, 2), (201, .ireturn, 1)]
set_option maxRecDepth 100000 in
theorem sa_kv308 : ∀ q ∈ sa_k308, decode cX12_game q.1 = .ok q.2 ∧ sa_ln q.2.1 q.2.2 = true := by decide +kernel
set_option maxRecDepth 100000 in
def sa_k309 : List (Nat × Instr × Nat) := [(0, .aload_n 0, 1), (1, .aload_n 0, 1), (2, .getfield 501, 3), (5, .ldc_w 504, 3), (8, .imul, 1), (9, .sipush 12345, 3), (12, .iadd, 1), (13, .putfield 501, 3), (16, .aload_n 0, 1), (17, .getfield 501, 3), (20, .bipush 16, 2), (22, .ishr, 1), (23, .sipush 32767, 3), (26, .iand, 1), (27, .iload_n 1, 1), (28, .irem, 1), (29, .ireturn, 1)]
set_option maxRecDepth 100000 in
theorem sa_kv309 : ∀ q ∈ sa_k309, decode cX12_draw q.1 = .ok q.2 ∧ sa_ln q.2.1 q.2.2 = true := by decide +kernel
set_option maxRecDepth 100000 in
def sa_k310 : List (Nat × Instr × Nat) := [(0, .aload_n 0, 1), (1, .invokevirtual 467, 3), (4, .iconst 0, 1), (5, .istore_n 1, 1), (6, .iload_n 1, 1), (7, .bipush 6, 2), (9, .if_icmp .ge 67, 3), (12, .aload_n 0, 1), (13, .getfield 338, 3), (16, .ifCond .le 48, 3), (19, .aload_n 0, 1), (20, .getfield 341, 3), (23, .ifCond .le 41, 3), (26, .aload_n 0, 1), (27, .aload_n 0, 1), (28, .getfield 338, 3), (31, .invokevirtual 505, 3), (34, .istore_n 2, 1), (35, .aload_n 0, 1), (36, .aload_n 0, 1), (37, .getfield 341, 3), (40, .invokevirtual 505, 3), (43, .istore_n 3, 1), (44, .aload_n 0, 1), (45, .bipush 27, 2), (47, .iload_n 2, 1), (48, .iload_n 3, 1), (49, .invokevirtual 419, 3), (52, .ifCond .eq 12, 3), (55, .aload_n 0, 1), (56, .bipush 27, 2), (58, .iload_n 2, 1), (59, .iload_n 3, 1), (60, .invokevirtual 428, 3), (63, .pop, 1), (64, .aload_n 0, 1), (65, .bipush 27, 2), (67, .invokevirtual 431, 3), (70, .iinc 1 1, 3), (73, .goto (-67), 3), (76, .return_, 1)]
set_option maxRecDepth 100000 in
theorem sa_kv310 : ∀ q ∈ sa_k310, decode cX12_spiderGoes q.1 = .ok q.2 ∧ sa_ln q.2.1 q.2.2 = true := by decide +kernel
set_option maxRecDepth 100000 in
def sa_k311 : List (Nat × Instr × Nat) := [(0, .aload_n 0, 1), (1, .iconst 0, 1), (2, .putfield 172, 3), (5, .aload_n 0, 1), (6, .iload_n 3, 1), (7, .iconst 2, 1), (8, .invokevirtual 410, 3), (11, .ifCond .eq 18, 3), (14, .aload_n 0, 1), (15, .iload_n 2, 1), (16, .iconst 0, 1), (17, .bipush 30, 2), (19, .invokestatic 403, 3), (22, .iconst 2, 1), (23, .invokevirtual 331, 3), (26, .ifCond .ne 5, 3), (29, .iconst 0, 1), (30, .ireturn, 1), (31, .aload_n 0, 1), (32, .iload_n 1, 1), (33, .putfield 501, 3), (36, .iconst 0, 1), (37, .istore 4, 2), (39, .iconst 0, 1), (40, .istore 5, 2), (42, .iconst 0, 1), (43, .istore 6, 2), (45, .iconst 0, 1), (46, .istore 7, 2), (48, .iload 7, 2), (50, .iload_n 2, 1), (51, .if_icmp .ge 69, 3), (54, .aload_n 0, 1), (55, .invokevirtual 508, 3), (58, .iload 4, 2), (60, .aload_n 0, 1), (61, .bipush 27, 2), (63, .iconst 1, 1), (64, .invokevirtual 380, 3), (67, .invokestatic 371, 3), (70, .iadd, 1), (71, .istore 4, 2), (73, .iload 5, 2), (75, .aload_n 0, 1), (76, .bipush 27, 2), (78, .iconst 2, 1), (79, .invokevirtual 380, 3), (82, .invokestatic 371, 3), (85, .iadd, 1), (86, .istore 5, 2), (88, .aload_n 0, 1), (89, .getfield 111, 3), (92, .bipush 27, 2), (94, .iaload, 1), (95, .iload 6, 2), (97, .if_icmp .le 13, 3), (100, .aload_n 0, 1), (101, .getfield 111, 3), (104, .bipush 27, 2), (106, .iaload, 1), (107, .goto 5, 3), (110, .iload 6, 2), (112, .istore 6, 2), (114, .iinc 7 1, 3), (117, .goto (-69), 3), (120, .iload_n 3, 1), (121, .ifCond .ne 8, 3), (124, .iload 4, 2), (126, .goto 15, 3), (129, .iload_n 3, 1), (130, .iconst 1, 1), (131, .if_icmp .ne 8, 3), (134, .iload 5, 2), (136, .goto 5, 3), (139, .iload 6, 2), (141, .ireturn, 1)]
set_option maxRecDepth 100000 in
theorem sa_kv311 : ∀ q ∈ sa_k311, decode cX12_spiders q.1 = .ok q.2 ∧ sa_ln q.2.1 q.2.2 = true := by decide +kernel
set_option maxRecDepth 100000 in
def sa_k312 : List (Nat × Instr × Nat) := [(0, .aload_n 0, 1), (1, .iconst 0, 1), (2, .putfield 172, 3), (5, .aload_n 0, 1), (6, .iload_n 1, 1), (7, .invokevirtual 416, 3), (10, .ifCond .ne 5, 3), (13, .iconst 0, 1), (14, .ireturn, 1), (15, .iconst 0, 1), (16, .istore_n 2, 1), (17, .iconst 0, 1), (18, .istore_n 3, 1), (19, .iload_n 3, 1), (20, .aload_n 0, 1), (21, .getfield 338, 3), (24, .if_icmp .ge 23, 3), (27, .iload_n 2, 1), (28, .aload_n 0, 1), (29, .iload_n 3, 1), (30, .invokevirtual 413, 3), (33, .iload_n 1, 1), (34, .ishr, 1), (35, .iconst 1, 1), (36, .iand, 1), (37, .iload_n 3, 1), (38, .ishl, 1), (39, .ior, 1), (40, .istore_n 2, 1), (41, .iinc 3 1, 3), (44, .goto (-25), 3), (47, .iload_n 2, 1), (48, .ireturn, 1)]
set_option maxRecDepth 100000 in
theorem sa_kv312 : ∀ q ∈ sa_k312, decode cX12_fooled q.1 = .ok q.2 ∧ sa_ln q.2.1 q.2.2 = true := by decide +kernel
set_option maxRecDepth 100000 in
def sa_k313 : List (Nat × Instr × Nat) := [(0, .aload_n 0, 1), (1, .iconst 0, 1), (2, .putfield 172, 3), (5, .aload_n 0, 1), (6, .iload_n 1, 1), (7, .invokevirtual 407, 3), (10, .ifCond .eq 11, 3), (13, .aload_n 0, 1), (14, .iload_n 2, 1), (15, .invokevirtual 416, 3), (18, .ifCond .ne 5, 3), (21, .iconst 0, 1), (22, .ireturn, 1), (23, .aload_n 0, 1), (24, .getfield 23, 3), (27, .iload_n 2, 1), (28, .iaload, 1), (29, .aload_n 0, 1), (30, .getfield 111, 3), (33, .iconst 3, 1), (34, .iload_n 1, 1), (35, .iadd, 1), (36, .iaload, 1), (37, .iconst (-1), 1), (38, .ixor, 1), (39, .iand, 1), (40, .aload_n 0, 1), (41, .getfield 26, 3), (44, .iload_n 2, 1), (45, .iaload, 1), (46, .aload_n 0, 1), (47, .getfield 111, 3), (50, .iconst 3, 1), (51, .iload_n 1, 1), (52, .iadd, 1), (53, .iaload, 1), (54, .iand, 1), (55, .bipush 6, 2), (57, .ishl, 1), (58, .ior, 1), (59, .ireturn, 1)]
set_option maxRecDepth 100000 in
theorem sa_kv313 : ∀ q ∈ sa_k313, decode cX12_lacking q.1 = .ok q.2 ∧ sa_ln q.2.1 q.2.2 = true := by decide +kernel
set_option maxRecDepth 100000 in
def sa_k314 : List (Nat × Instr × Nat) := [(0, .aload_n 0, 1), (1, .aload_n 0, 1), (2, .iconst 0, 1), (3, .iconst 1, 1), (4, .invokevirtual 380, 3), (7, .invokevirtual 383, 3), (10, .istore_n 2, 1), (11, .aload_n 0, 1), (12, .iload_n 1, 1), (13, .invokevirtual 444, 3), (16, .aload_n 0, 1), (17, .iconst 0, 1), (18, .putfield 511, 3), (21, .aload_n 0, 1), (22, .aload_n 0, 1), (23, .getfield 111, 3), (26, .iconst 3, 1), (27, .iload_n 1, 1), (28, .iadd, 1), (29, .iaload, 1), (30, .putfield 514, 3), (33, .aload_n 0, 1), (34, .bipush 63, 2), (36, .aload_n 0, 1), (37, .getfield 111, 3), (40, .iconst 3, 1), (41, .iload_n 1, 1), (42, .iadd, 1), (43, .iaload, 1), (44, .iconst (-1), 1), (45, .ixor, 1), (46, .iand, 1), (47, .putfield 517, 3), (50, .iconst 0, 1), (51, .istore_n 3, 1), (52, .iload_n 3, 1), (53, .aload_n 0, 1), (54, .getfield 434, 3), (57, .if_icmp .ge 156, 3), (60, .aload_n 0, 1), (61, .getfield 123, 3), (64, .iload_n 3, 1), (65, .iaload, 1), (66, .istore 4, 2), (68, .iconst 0, 1), (69, .istore 5, 2), (71, .iload 5, 2), (73, .aload_n 0, 1), (74, .getfield 341, 3), (77, .if_icmp .ge 130, 3), (80, .aload_n 0, 1), (81, .iload 5, 2), (83, .iload 4, 2), (85, .bipush 61, 2), (87, .idiv, 1), (88, .invokevirtual 386, 3), (91, .ifCond .ne 6, 3), (94, .goto 107, 3), (97, .aload_n 0, 1), (98, .iload 5, 2), (100, .iload 4, 2), (102, .bipush 61, 2), (104, .idiv, 1), (105, .invokevirtual 390, 3), (108, .istore 6, 2), (110, .aload_n 0, 1), (111, .iload 5, 2), (113, .iload 4, 2), (115, .bipush 61, 2), (117, .irem, 1), (118, .iload_n 2, 1), (119, .invokevirtual 393, 3), (122, .istore 7, 2), (124, .aload_n 0, 1), (125, .dup, 1), (126, .getfield 511, 3), (129, .iconst 1, 1), (130, .iload 5, 2), (132, .ishl, 1), (133, .ior, 1), (134, .putfield 511, 3), (137, .aload_n 0, 1), (138, .dup, 1), (139, .getfield 514, 3), (142, .iload 6, 2), (144, .ior, 1), (145, .putfield 514, 3), (148, .aload_n 0, 1), (149, .dup, 1), (150, .getfield 517, 3), (153, .bipush 63, 2), (155, .iload 6, 2), (157, .iconst (-1), 1), (158, .ixor, 1), (159, .iand, 1), (160, .ior, 1), (161, .putfield 517, 3), (164, .aload_n 0, 1), (165, .iload_n 1, 1), (166, .aload_n 0, 1), (167, .getfield 111, 3), (170, .bipush 9, 2), (172, .iload_n 1, 1), (173, .iadd, 1), (174, .iaload, 1), (175, .iload 6, 2), (177, .iload 7, 2), (179, .iload_n 2, 1), (180, .invokevirtual 396, 3), (183, .ifCond .ne 18, 3), (186, .aload_n 0, 1), (187, .iload 6, 2), (189, .iload 7, 2), (191, .invokestatic 437, 3), (194, .iload 4, 2), (196, .iload 5, 2), (198, .invokevirtual 440, 3), (201, .iinc 5 1, 3), (204, .goto (-133), 3), (207, .iinc 3 1, 3), (210, .goto (-158), 3), (213, .return_, 1)]
set_option maxRecDepth 100000 in
theorem sa_kv314 : ∀ q ∈ sa_k314, decode cX12_explores q.1 = .ok q.2 ∧ sa_ln q.2.1 q.2.2 = true := by decide +kernel
set_option maxRecDepth 100000 in
def sa_k315 : List (Nat × Instr × Nat) := [(0, .aload_n 0, 1), (1, .iconst 0, 1), (2, .putfield 172, 3), (5, .iconst 1, 1), (6, .aload_n 0, 1), (7, .getfield 341, 3), (10, .ishl, 1), (11, .iconst 1, 1), (12, .isub, 1), (13, .istore_n 1, 1), (14, .iconst 0, 1), (15, .istore_n 2, 1), (16, .iload_n 2, 1), (17, .aload_n 0, 1), (18, .getfield 338, 3), (21, .if_icmp .ge 38, 3), (24, .aload_n 0, 1), (25, .getfield 111, 3), (28, .bipush 21, 2), (30, .iload_n 2, 1), (31, .iadd, 1), (32, .iaload, 1), (33, .ifCond .eq 6, 3), (36, .goto 17, 3), (39, .aload_n 0, 1), (40, .iload_n 2, 1), (41, .invokevirtual 520, 3), (44, .iload_n 1, 1), (45, .aload_n 0, 1), (46, .getfield 511, 3), (49, .iconst (-1), 1), (50, .ixor, 1), (51, .iand, 1), (52, .istore_n 1, 1), (53, .iinc 2 1, 3), (56, .goto (-40), 3), (59, .iload_n 1, 1), (60, .ireturn, 1)]
set_option maxRecDepth 100000 in
theorem sa_kv315 : ∀ q ∈ sa_k315, decode cX12_useless q.1 = .ok q.2 ∧ sa_ln q.2.1 q.2.2 = true := by decide +kernel
set_option maxRecDepth 100000 in
def sa_k316 : List (Nat × Instr × Nat) := [(0, .aload_n 0, 1), (1, .iconst 0, 1), (2, .putfield 172, 3), (5, .aload_n 0, 1), (6, .iload_n 1, 1), (7, .invokevirtual 407, 3), (10, .ifCond .ne 5, 3), (13, .iconst 0, 1), (14, .ireturn, 1), (15, .aload_n 0, 1), (16, .getfield 111, 3), (19, .bipush 21, 2), (21, .iload_n 1, 1), (22, .iadd, 1), (23, .iaload, 1), (24, .ifCond .eq 5, 3), (27, .iconst (-1), 1), (28, .ireturn, 1), (29, .aload_n 0, 1), (30, .iload_n 1, 1), (31, .invokevirtual 520, 3), (34, .bipush 63, 2), (36, .aload_n 0, 1), (37, .getfield 514, 3), (40, .iconst (-1), 1), (41, .ixor, 1), (42, .iand, 1), (43, .bipush 63, 2), (45, .aload_n 0, 1), (46, .getfield 517, 3), (49, .iconst (-1), 1), (50, .ixor, 1), (51, .iand, 1), (52, .bipush 6, 2), (54, .ishl, 1), (55, .ior, 1), (56, .ireturn, 1)]
set_option maxRecDepth 100000 in
theorem sa_kv316 : ∀ q ∈ sa_k316, decode cX12_firm q.1 = .ok q.2 ∧ sa_ln q.2.1 q.2.2 = true := by decide +kernel
set_option maxRecDepth 100000 in
def sa_k317 : List (Nat × Instr × Nat) := [(0, .aload_n 0, 1), (1, .iconst 0, 1), (2, .putfield 172, 3), (5, .aload_n 0, 1), (6, .iload_n 1, 1), (7, .iconst 0, 1), (8, .bipush 60, 2), (10, .invokestatic 403, 3), (13, .iconst 1, 1), (14, .invokevirtual 331, 3), (17, .ifCond .ne 5, 3), (20, .iconst 0, 1), (21, .ireturn, 1), (22, .aload_n 0, 1), (23, .invokevirtual 467, 3), (26, .aload_n 0, 1), (27, .iload_n 1, 1), (28, .invokevirtual 470, 3), (31, .iconst 0, 1), (32, .istore_n 2, 1), (33, .iconst 0, 1), (34, .istore_n 3, 1), (35, .iload_n 3, 1), (36, .aload_n 0, 1), (37, .getfield 338, 3), (40, .if_icmp .ge 35, 3), (43, .iload_n 2, 1), (44, .aload_n 0, 1), (45, .getfield 111, 3), (48, .bipush 48, 2), (50, .iload_n 3, 1), (51, .iadd, 1), (52, .iaload, 1), (53, .iconst 2, 1), (54, .if_icmp .ne 12, 3), (57, .aload_n 0, 1), (58, .getfield 17, 3), (61, .iload_n 3, 1), (62, .iaload, 1), (63, .goto 4, 3), (66, .iconst 0, 1), (67, .iadd, 1), (68, .istore_n 2, 1), (69, .iinc 3 1, 3), (72, .goto (-37), 3), (75, .iload_n 2, 1), (76, .ireturn, 1)]
set_option maxRecDepth 100000 in
theorem sa_kv317 : ∀ q ∈ sa_k317, decode cX12_loot q.1 = .ok q.2 ∧ sa_ln q.2.1 q.2.2 = true := by decide +kernel
set_option maxRecDepth 100000 in
def sa_k318 : List (Nat × Instr × Nat) := [(0, .aload_n 0, 1), (1, .iconst 0, 1), (2, .putfield 172, 3), (5, .aload_n 0, 1), (6, .iload_n 2, 1), (7, .iconst 1, 1), (8, .invokevirtual 410, 3), (11, .ifCond .eq 16, 3), (14, .aload_n 0, 1), (15, .aload_n 0, 1), (16, .iload_n 1, 1), (17, .invokevirtual 476, 3), (20, .iconst 2, 1), (21, .invokevirtual 331, 3), (24, .ifCond .ne 5, 3), (27, .iconst 0, 1), (28, .ireturn, 1), (29, .aload_n 0, 1), (30, .iload_n 1, 1), (31, .iconst 0, 1), (32, .invokevirtual 479, 3), (35, .istore_n 3, 1), (36, .iconst (-1), 1), (37, .istore 4, 2), (39, .iconst 0, 1), (40, .istore 5, 2), (42, .iload 5, 2), (44, .aload_n 0, 1), (45, .getfield 344, 3), (48, .if_icmp .ge 46, 3), (51, .iload_n 3, 1), (52, .iload 5, 2), (54, .ishr, 1), (55, .iconst 1, 1), (56, .iand, 1), (57, .iconst 1, 1), (58, .if_icmp .ne 30, 3), (61, .iload 4, 2), (63, .iconst (-1), 1), (64, .if_icmp .eq 20, 3), (67, .aload_n 0, 1), (68, .getfield 44, 3), (71, .iload 5, 2), (73, .iaload, 1), (74, .aload_n 0, 1), (75, .getfield 44, 3), (78, .iload 4, 2), (80, .iaload, 1), (81, .if_icmp .le 7, 3), (84, .iload 5, 2), (86, .istore 4, 2), (88, .iinc 5 1, 3), (91, .goto (-49), 3), (94, .iload 4, 2), (96, .iconst (-1), 1), (97, .if_icmp .eq 8, 3), (100, .iload_n 2, 1), (101, .iconst 1, 1), (102, .if_icmp .ne 8, 3), (105, .iload 4, 2), (107, .goto 10, 3), (110, .aload_n 0, 1), (111, .getfield 44, 3), (114, .iload 4, 2), (116, .iaload, 1), (117, .ireturn, 1)]
set_option maxRecDepth 100000 in
theorem sa_kv318 : ∀ q ∈ sa_k318, decode cX12_offer q.1 = .ok q.2 ∧ sa_ln q.2.1 q.2.2 = true := by decide +kernel
set_option maxRecDepth 100000 in
def sa_k319 : List (Nat × Instr × Nat) := [(0, .aload_n 0, 1), (1, .iconst 0, 1), (2, .putfield 172, 3), (5, .aload_n 0, 1), (6, .iload_n 1, 1), (7, .ifCond .lt 15, 3), (10, .iload_n 1, 1), (11, .aload_n 0, 1), (12, .getfield 347, 3), (15, .if_icmp .ge 7, 3), (18, .iconst 1, 1), (19, .goto 4, 3), (22, .iconst 0, 1), (23, .iconst 1, 1), (24, .invokevirtual 331, 3), (27, .ifCond .ne 5, 3), (30, .iconst 0, 1), (31, .ireturn, 1), (32, .aload_n 0, 1), (33, .getfield 47, 3), (36, .iload_n 1, 1), (37, .iaload, 1), (38, .aload_n 0, 1), (39, .iconst 1, 1), (40, .aload_n 0, 1), (41, .getfield 347, 3), (44, .ishl, 1), (45, .iconst 1, 1), (46, .isub, 1), (47, .iconst 1, 1), (48, .iload_n 1, 1), (49, .ishl, 1), (50, .iconst (-1), 1), (51, .ixor, 1), (52, .iand, 1), (53, .invokevirtual 482, 3), (56, .iconst (-1), 1), (57, .ixor, 1), (58, .iand, 1), (59, .ireturn, 1)]
set_option maxRecDepth 100000 in
theorem sa_kv319 : ∀ q ∈ sa_k319, decode cX12_alone q.1 = .ok q.2 ∧ sa_ln q.2.1 q.2.2 = true := by decide +kernel
set_option maxRecDepth 100000 in
def sa_k320 : List (Nat × Instr × Nat) := [(0, .aload_n 0, 1), (1, .iconst 0, 1), (2, .putfield 172, 3), (5, .iconst 0, 1), (6, .istore_n 1, 1), (7, .iconst 0, 1), (8, .istore_n 2, 1), (9, .iload_n 2, 1), (10, .aload_n 0, 1), (11, .getfield 347, 3), (14, .if_icmp .ge 50, 3), (17, .iload_n 2, 1), (18, .iconst 1, 1), (19, .iadd, 1), (20, .istore_n 3, 1), (21, .iload_n 3, 1), (22, .aload_n 0, 1), (23, .getfield 347, 3), (26, .if_icmp .ge 32, 3), (29, .iload_n 1, 1), (30, .aload_n 0, 1), (31, .getfield 47, 3), (34, .iload_n 2, 1), (35, .iaload, 1), (36, .aload_n 0, 1), (37, .getfield 47, 3), (40, .iload_n 3, 1), (41, .iaload, 1), (42, .if_icmp .ne 7, 3), (45, .iconst 1, 1), (46, .goto 4, 3), (49, .iconst 0, 1), (50, .iadd, 1), (51, .istore_n 1, 1), (52, .iinc 3 1, 3), (55, .goto (-34), 3), (58, .iinc 2 1, 3), (61, .goto (-52), 3), (64, .iload_n 1, 1), (65, .ireturn, 1)]
set_option maxRecDepth 100000 in
theorem sa_kv320 : ∀ q ∈ sa_k320, decode cX12_like q.1 = .ok q.2 ∧ sa_ln q.2.1 q.2.2 = true := by decide +kernel
set_option maxRecDepth 100000 in
def sa_k321 : List (Nat × Instr × Nat) := [(0, .aload_n 0, 1), (1, .iconst 0, 1), (2, .putfield 172, 3), (5, .aload_n 0, 1), (6, .iconst 1, 1), (7, .putfield 363, 3), (10, .aload_n 0, 1), (11, .aload_n 0, 1), (12, .getfield 357, 3), (15, .putfield 523, 3), (18, .aload_n 0, 1), (19, .aload_n 0, 1), (20, .getfield 360, 3), (23, .putfield 526, 3), (26, .iconst 0, 1), (27, .istore_n 1, 1), (28, .iload_n 1, 1), (29, .bipush 27, 2), (31, .if_icmp .ge 21, 3), (34, .aload_n 0, 1), (35, .getfield 163, 3), (38, .iload_n 1, 1), (39, .aload_n 0, 1), (40, .getfield 111, 3), (43, .iload_n 1, 1), (44, .iaload, 1), (45, .iastore, 1), (46, .iinc 1 1, 3), (49, .goto (-21), 3), (52, .aload_n 0, 1), (53, .aload_n 0, 1), (54, .getfield 114, 3), (57, .aload_n 0, 1), (58, .getfield 166, 3), (61, .invokevirtual 353, 3), (64, .aload_n 0, 1), (65, .aload_n 0, 1), (66, .getfield 150, 3), (69, .aload_n 0, 1), (70, .getfield 169, 3), (73, .invokevirtual 353, 3), (76, .return_, 1)]
set_option maxRecDepth 100000 in
theorem sa_kv321 : ∀ q ∈ sa_k321, decode cX12_image q.1 = .ok q.2 ∧ sa_ln q.2.1 q.2.2 = true := by decide +kernel
set_option maxRecDepth 100000 in
def sa_k322 : List (Nat × Instr × Nat) := [(0, .aload_n 0, 1), (1, .iconst 0, 1), (2, .putfield 172, 3), (5, .aload_n 0, 1), (6, .getfield 363, 3), (9, .ifCond .ne 5, 3), (12, .iconst 0, 1), (13, .ireturn, 1), (14, .aload_n 0, 1), (15, .aload_n 0, 1), (16, .getfield 523, 3), (19, .putfield 357, 3), (22, .aload_n 0, 1), (23, .aload_n 0, 1), (24, .getfield 526, 3), (27, .putfield 360, 3), (30, .iconst 0, 1), (31, .istore_n 1, 1), (32, .iload_n 1, 1), (33, .bipush 27, 2), (35, .if_icmp .ge 21, 3), (38, .aload_n 0, 1), (39, .getfield 111, 3), (42, .iload_n 1, 1), (43, .aload_n 0, 1), (44, .getfield 163, 3), (47, .iload_n 1, 1), (48, .iaload, 1), (49, .iastore, 1), (50, .iinc 1 1, 3), (53, .goto (-21), 3), (56, .aload_n 0, 1), (57, .aload_n 0, 1), (58, .getfield 166, 3), (61, .aload_n 0, 1), (62, .getfield 114, 3), (65, .invokevirtual 353, 3), (68, .aload_n 0, 1), (69, .aload_n 0, 1), (70, .getfield 169, 3), (73, .aload_n 0, 1), (74, .getfield 150, 3), (77, .invokevirtual 353, 3), (80, .iconst 1, 1), (81, .ireturn, 1)]
set_option maxRecDepth 100000 in
theorem sa_kv322 : ∀ q ∈ sa_k322, decode cX12_restore q.1 = .ok q.2 ∧ sa_ln q.2.1 q.2.2 = true := by decide +kernel
set_option maxRecDepth 100000 in
def sa_k323 : List (Nat × Instr × Nat) := [(0, .aload_n 2, 1), (1, .iconst 0, 1), (2, .aload_n 0, 1), (3, .iload_n 1, 1), (4, .invokevirtual 7, 3), (7, .i2l, 1), (8, .lastore, 1), (9, .goto 6, 3), (12, .astore_n 3, 1), (13, .iconst 1, 1), (14, .ireturn, 1), (15, .iconst 0, 1), (16, .ireturn, 1)]
set_option maxRecDepth 100000 in
theorem sa_kv323 : ∀ q ∈ sa_k323, decode cL_sky q.1 = .ok q.2 ∧ sa_ln q.2.1 q.2.2 = true := by decide +kernel
set_option maxRecDepth 100000 in
def sa_k324 : List (Nat × Instr × Nat) := [(0, .aload_n 2, 1), (1, .iconst 0, 1), (2, .aload_n 0, 1), (3, .iload_n 1, 1), (4, .invokevirtual 15, 3), (7, .i2l, 1), (8, .lastore, 1), (9, .goto 6, 3), (12, .astore_n 3, 1), (13, .iconst 1, 1), (14, .ireturn, 1), (15, .iconst 0, 1), (16, .ireturn, 1)]
set_option maxRecDepth 100000 in
theorem sa_kv324 : ∀ q ∈ sa_k324, decode cL_count q.1 = .ok q.2 ∧ sa_ln q.2.1 q.2.2 = true := by decide +kernel
set_option maxRecDepth 100000 in
def sa_k325 : List (Nat × Instr × Nat) := [(0, .aload_n 3, 1), (1, .iconst 0, 1), (2, .aload_n 0, 1), (3, .iload_n 1, 1), (4, .iload_n 2, 1), (5, .invokevirtual 20, 3), (8, .i2l, 1), (9, .lastore, 1), (10, .goto 7, 3), (13, .astore 4, 2), (15, .iconst 1, 1), (16, .ireturn, 1), (17, .iconst 0, 1), (18, .ireturn, 1)]
set_option maxRecDepth 100000 in
theorem sa_kv325 : ∀ q ∈ sa_k325, decode cL_creature q.1 = .ok q.2 ∧ sa_ln q.2.1 q.2.2 = true := by decide +kernel
set_option maxRecDepth 100000 in
def sa_k326 : List (Nat × Instr × Nat) := [(0, .aload_n 3, 1), (1, .iconst 0, 1), (2, .aload_n 0, 1), (3, .iload_n 1, 1), (4, .iload_n 2, 1), (5, .invokevirtual 24, 3), (8, .i2l, 1), (9, .lastore, 1), (10, .goto 7, 3), (13, .astore 4, 2), (15, .iconst 1, 1), (16, .ireturn, 1), (17, .iconst 0, 1), (18, .ireturn, 1)]
set_option maxRecDepth 100000 in
theorem sa_kv326 : ∀ q ∈ sa_k326, decode cL_trick q.1 = .ok q.2 ∧ sa_ln q.2.1 q.2.2 = true := by decide +kernel
set_option maxRecDepth 100000 in
def sa_k327 : List (Nat × Instr × Nat) := [(0, .aload_n 3, 1), (1, .iconst 0, 1), (2, .aload_n 0, 1), (3, .iload_n 1, 1), (4, .iload_n 2, 1), (5, .invokevirtual 27, 3), (8, .i2l, 1), (9, .lastore, 1), (10, .goto 7, 3), (13, .astore 4, 2), (15, .iconst 1, 1), (16, .ireturn, 1), (17, .iconst 0, 1), (18, .ireturn, 1)]
set_option maxRecDepth 100000 in
theorem sa_kv327 : ∀ q ∈ sa_k327, decode cL_attempt q.1 = .ok q.2 ∧ sa_ln q.2.1 q.2.2 = true := by decide +kernel
set_option maxRecDepth 100000 in
def sa_k328 : List (Nat × Instr × Nat) := [(0, .aload_n 2, 1), (1, .iconst 0, 1), (2, .aload_n 0, 1), (3, .iload_n 1, 1), (4, .invokevirtual 30, 3), (7, .ifCond .eq 7, 3), (10, .lconst 1, 1), (11, .goto 4, 3), (14, .lconst 0, 1), (15, .lastore, 1), (16, .goto 6, 3), (19, .astore_n 3, 1), (20, .iconst 1, 1), (21, .ireturn, 1), (22, .iconst 0, 1), (23, .ireturn, 1)]
set_option maxRecDepth 100000 in
theorem sa_kv328 : ∀ q ∈ sa_k328, decode cL_guard q.1 = .ok q.2 ∧ sa_ln q.2.1 q.2.2 = true := by decide +kernel
set_option maxRecDepth 100000 in
def sa_k329 : List (Nat × Instr × Nat) := [(0, .aload 4, 2), (2, .iconst 0, 1), (3, .aload_n 0, 1), (4, .iload_n 1, 1), (5, .iload_n 2, 1), (6, .iload_n 3, 1), (7, .invokevirtual 34, 3), (10, .i2l, 1), (11, .lastore, 1), (12, .goto 7, 3), (15, .astore 5, 2), (17, .iconst 1, 1), (18, .ireturn, 1), (19, .iconst 0, 1), (20, .ireturn, 1)]
set_option maxRecDepth 100000 in
theorem sa_kv329 : ∀ q ∈ sa_k329, decode cL_tell q.1 = .ok q.2 ∧ sa_ln q.2.1 q.2.2 = true := by decide +kernel
set_option maxRecDepth 100000 in
def sa_k330 : List (Nat × Instr × Nat) := [(0, .aload_n 3, 1), (1, .iconst 0, 1), (2, .aload_n 0, 1), (3, .iload_n 1, 1), (4, .iload_n 2, 1), (5, .invokevirtual 38, 3), (8, .i2l, 1), (9, .lastore, 1), (10, .goto 7, 3), (13, .astore 4, 2), (15, .iconst 1, 1), (16, .ireturn, 1), (17, .iconst 0, 1), (18, .ireturn, 1)]
set_option maxRecDepth 100000 in
theorem sa_kv330 : ∀ q ∈ sa_k330, decode cL_plan q.1 = .ok q.2 ∧ sa_ln q.2.1 q.2.2 = true := by decide +kernel
set_option maxRecDepth 100000 in
def sa_k331 : List (Nat × Instr × Nat) := [(0, .aload_n 2, 1), (1, .iconst 0, 1), (2, .aload_n 0, 1), (3, .iload_n 1, 1), (4, .invokevirtual 41, 3), (7, .i2l, 1), (8, .lastore, 1), (9, .goto 6, 3), (12, .astore_n 3, 1), (13, .iconst 1, 1), (14, .ireturn, 1), (15, .iconst 0, 1), (16, .ireturn, 1)]
set_option maxRecDepth 100000 in
theorem sa_kv331 : ∀ q ∈ sa_k331, decode cL_cheapest q.1 = .ok q.2 ∧ sa_ln q.2.1 q.2.2 = true := by decide +kernel
set_option maxRecDepth 100000 in
def sa_k332 : List (Nat × Instr × Nat) := [(0, .aload 4, 2), (2, .iconst 0, 1), (3, .aload_n 0, 1), (4, .iload_n 1, 1), (5, .iload_n 2, 1), (6, .iload_n 3, 1), (7, .invokevirtual 44, 3), (10, .ifCond .eq 7, 3), (13, .lconst 1, 1), (14, .goto 4, 3), (17, .lconst 0, 1), (18, .lastore, 1), (19, .goto 11, 3), (22, .astore 5, 2), (24, .iconst 1, 1), (25, .ireturn, 1), (26, .astore 5, 2), (28, .iconst 2, 1), (29, .ireturn, 1), (30, .iconst 0, 1), (31, .ireturn, 1)]
set_option maxRecDepth 100000 in
theorem sa_kv332 : ∀ q ∈ sa_k332, decode cL_canBelieve q.1 = .ok q.2 ∧ sa_ln q.2.1 q.2.2 = true := by decide +kernel
set_option maxRecDepth 100000 in
def sa_k333 : List (Nat × Instr × Nat) := [(0, .aload_n 2, 1), (1, .iconst 0, 1), (2, .aload_n 0, 1), (3, .iload_n 1, 1), (4, .invokevirtual 48, 3), (7, .i2l, 1), (8, .lastore, 1), (9, .goto 6, 3), (12, .astore_n 3, 1), (13, .iconst 1, 1), (14, .ireturn, 1), (15, .iconst 0, 1), (16, .ireturn, 1)]
set_option maxRecDepth 100000 in
theorem sa_kv333 : ∀ q ∈ sa_k333, decode cL_order q.1 = .ok q.2 ∧ sa_ln q.2.1 q.2.2 = true := by decide +kernel
set_option maxRecDepth 100000 in
def sa_k334 : List (Nat × Instr × Nat) := [(0, .aload_n 2, 1), (1, .iconst 0, 1), (2, .aload_n 0, 1), (3, .iload_n 1, 1), (4, .invokevirtual 51, 3), (7, .i2l, 1), (8, .lastore, 1), (9, .goto 6, 3), (12, .astore_n 3, 1), (13, .iconst 1, 1), (14, .ireturn, 1), (15, .iconst 0, 1), (16, .ireturn, 1)]
set_option maxRecDepth 100000 in
theorem sa_kv334 : ∀ q ∈ sa_k334, decode cL_stolen q.1 = .ok q.2 ∧ sa_ln q.2.1 q.2.2 = true := by decide +kernel
set_option maxRecDepth 100000 in
def sa_k335 : List (Nat × Instr × Nat) := [(0, .aload_n 3, 1), (1, .iconst 0, 1), (2, .aload_n 0, 1), (3, .iload_n 1, 1), (4, .iload_n 2, 1), (5, .invokevirtual 54, 3), (8, .i2l, 1), (9, .lastore, 1), (10, .goto 11, 3), (13, .astore 4, 2), (15, .iconst 1, 1), (16, .ireturn, 1), (17, .astore 4, 2), (19, .iconst 2, 1), (20, .ireturn, 1), (21, .iconst 0, 1), (22, .ireturn, 1)]
set_option maxRecDepth 100000 in
theorem sa_kv335 : ∀ q ∈ sa_k335, decode cL_cord q.1 = .ok q.2 ∧ sa_ln q.2.1 q.2.2 = true := by decide +kernel
set_option maxRecDepth 100000 in
def sa_k336 : List (Nat × Instr × Nat) := [(0, .aload_n 2, 1), (1, .iconst 0, 1), (2, .aload_n 0, 1), (3, .iload_n 1, 1), (4, .invokevirtual 57, 3), (7, .i2l, 1), (8, .lastore, 1), (9, .goto 6, 3), (12, .astore_n 3, 1), (13, .iconst 1, 1), (14, .ireturn, 1), (15, .iconst 0, 1), (16, .ireturn, 1)]
set_option maxRecDepth 100000 in
theorem sa_kv336 : ∀ q ∈ sa_k336, decode cL_when q.1 = .ok q.2 ∧ sa_ln q.2.1 q.2.2 = true := by decide +kernel
set_option maxRecDepth 100000 in
def sa_k337 : List (Nat × Instr × Nat) := [(0, .aload_n 2, 1), (1, .iconst 0, 1), (2, .aload_n 0, 1), (3, .iload_n 1, 1), (4, .invokevirtual 60, 3), (7, .i2l, 1), (8, .lastore, 1), (9, .goto 6, 3), (12, .astore_n 3, 1), (13, .iconst 1, 1), (14, .ireturn, 1), (15, .iconst 0, 1), (16, .ireturn, 1)]
set_option maxRecDepth 100000 in
theorem sa_kv337 : ∀ q ∈ sa_k337, decode cL_toGuard q.1 = .ok q.2 ∧ sa_ln q.2.1 q.2.2 = true := by decide +kernel
set_option maxRecDepth 100000 in
def sa_k338 : List (Nat × Instr × Nat) := [(0, .aload_n 3, 1), (1, .iconst 0, 1), (2, .aload_n 0, 1), (3, .iload_n 1, 1), (4, .iload_n 2, 1), (5, .invokevirtual 63, 3), (8, .i2l, 1), (9, .lastore, 1), (10, .goto 7, 3), (13, .astore 4, 2), (15, .iconst 1, 1), (16, .ireturn, 1), (17, .iconst 0, 1), (18, .ireturn, 1)]
set_option maxRecDepth 100000 in
theorem sa_kv338 : ∀ q ∈ sa_k338, decode cL_payers q.1 = .ok q.2 ∧ sa_ln q.2.1 q.2.2 = true := by decide +kernel
set_option maxRecDepth 100000 in
def sa_k339 : List (Nat × Instr × Nat) := [(0, .aload_n 3, 1), (1, .iconst 0, 1), (2, .aload_n 0, 1), (3, .iload_n 1, 1), (4, .iload_n 2, 1), (5, .invokevirtual 66, 3), (8, .i2l, 1), (9, .lastore, 1), (10, .goto 7, 3), (13, .astore 4, 2), (15, .iconst 1, 1), (16, .ireturn, 1), (17, .iconst 0, 1), (18, .ireturn, 1)]
set_option maxRecDepth 100000 in
theorem sa_kv339 : ∀ q ∈ sa_k339, decode cL_few q.1 = .ok q.2 ∧ sa_ln q.2.1 q.2.2 = true := by decide +kernel
set_option maxRecDepth 100000 in
def sa_k340 : List (Nat × Instr × Nat) := [(0, .aload_n 3, 1), (1, .iconst 0, 1), (2, .aload_n 0, 1), (3, .iload_n 1, 1), (4, .iload_n 2, 1), (5, .invokevirtual 69, 3), (8, .i2l, 1), (9, .lastore, 1), (10, .goto 7, 3), (13, .astore 4, 2), (15, .iconst 1, 1), (16, .ireturn, 1), (17, .iconst 0, 1), (18, .ireturn, 1)]
set_option maxRecDepth 100000 in
theorem sa_kv340 : ∀ q ∈ sa_k340, decode cL_borrowed q.1 = .ok q.2 ∧ sa_ln q.2.1 q.2.2 = true := by decide +kernel
set_option maxRecDepth 100000 in
def sa_k341 : List (Nat × Instr × Nat) := [(0, .aload 5, 2), (2, .iconst 0, 1), (3, .aload_n 0, 1), (4, .iload_n 1, 1), (5, .iload_n 2, 1), (6, .iload_n 3, 1), (7, .iload 4, 2), (9, .invokevirtual 72, 3), (12, .i2l, 1), (13, .lastore, 1), (14, .goto 7, 3), (17, .astore 6, 2), (19, .iconst 1, 1), (20, .ireturn, 1), (21, .iconst 0, 1), (22, .ireturn, 1)]
set_option maxRecDepth 100000 in
theorem sa_kv341 : ∀ q ∈ sa_k341, decode cL_mark q.1 = .ok q.2 ∧ sa_ln q.2.1 q.2.2 = true := by decide +kernel
set_option maxRecDepth 100000 in
def sa_k342 : List (Nat × Instr × Nat) := [(0, .aload 4, 2), (2, .iconst 0, 1), (3, .aload_n 0, 1), (4, .iload_n 1, 1), (5, .iload_n 2, 1), (6, .iload_n 3, 1), (7, .invokevirtual 76, 3), (10, .i2l, 1), (11, .lastore, 1), (12, .goto 11, 3), (15, .astore 5, 2), (17, .iconst 1, 1), (18, .ireturn, 1), (19, .astore 5, 2), (21, .iconst 2, 1), (22, .ireturn, 1), (23, .iconst 0, 1), (24, .ireturn, 1)]
set_option maxRecDepth 100000 in
theorem sa_kv342 : ∀ q ∈ sa_k342, decode cL_how q.1 = .ok q.2 ∧ sa_ln q.2.1 q.2.2 = true := by decide +kernel
set_option maxRecDepth 100000 in
def sa_k343 : List (Nat × Instr × Nat) := [(0, .aload 4, 2), (2, .iconst 0, 1), (3, .aload_n 0, 1), (4, .iload_n 1, 1), (5, .iload_n 2, 1), (6, .iload_n 3, 1), (7, .invokevirtual 80, 3), (10, .i2l, 1), (11, .lastore, 1), (12, .goto 11, 3), (15, .astore 5, 2), (17, .iconst 1, 1), (18, .ireturn, 1), (19, .astore 5, 2), (21, .iconst 2, 1), (22, .ireturn, 1), (23, .iconst 0, 1), (24, .ireturn, 1)]
set_option maxRecDepth 100000 in
theorem sa_kv343 : ∀ q ∈ sa_k343, decode cL_next q.1 = .ok q.2 ∧ sa_ln q.2.1 q.2.2 = true := by decide +kernel
set_option maxRecDepth 100000 in
def sa_k344 : List (Nat × Instr × Nat) := [(0, .aload 5, 2), (2, .iconst 0, 1), (3, .aload_n 0, 1), (4, .iload_n 1, 1), (5, .iload_n 2, 1), (6, .iload_n 3, 1), (7, .iload 4, 2), (9, .invokevirtual 83, 3), (12, .i2l, 1), (13, .lastore, 1), (14, .goto 11, 3), (17, .astore 6, 2), (19, .iconst 1, 1), (20, .ireturn, 1), (21, .astore 6, 2), (23, .iconst 2, 1), (24, .ireturn, 1), (25, .iconst 0, 1), (26, .ireturn, 1)]
set_option maxRecDepth 100000 in
theorem sa_kv344 : ∀ q ∈ sa_k344, decode cL_game q.1 = .ok q.2 ∧ sa_ln q.2.1 q.2.2 = true := by decide +kernel
set_option maxRecDepth 100000 in
def sa_k345 : List (Nat × Instr × Nat) := [(0, .aload 4, 2), (2, .iconst 0, 1), (3, .aload_n 0, 1), (4, .iload_n 1, 1), (5, .iload_n 2, 1), (6, .iload_n 3, 1), (7, .invokevirtual 87, 3), (10, .i2l, 1), (11, .lastore, 1), (12, .goto 11, 3), (15, .astore 5, 2), (17, .iconst 1, 1), (18, .ireturn, 1), (19, .astore 5, 2), (21, .iconst 2, 1), (22, .ireturn, 1), (23, .iconst 0, 1), (24, .ireturn, 1)]
set_option maxRecDepth 100000 in
theorem sa_kv345 : ∀ q ∈ sa_k345, decode cL_spiders q.1 = .ok q.2 ∧ sa_ln q.2.1 q.2.2 = true := by decide +kernel
set_option maxRecDepth 100000 in
def sa_k346 : List (Nat × Instr × Nat) := [(0, .aload_n 2, 1), (1, .iconst 0, 1), (2, .aload_n 0, 1), (3, .iload_n 1, 1), (4, .invokevirtual 90, 3), (7, .i2l, 1), (8, .lastore, 1), (9, .goto 6, 3), (12, .astore_n 3, 1), (13, .iconst 1, 1), (14, .ireturn, 1), (15, .iconst 0, 1), (16, .ireturn, 1)]
set_option maxRecDepth 100000 in
theorem sa_kv346 : ∀ q ∈ sa_k346, decode cL_fooled q.1 = .ok q.2 ∧ sa_ln q.2.1 q.2.2 = true := by decide +kernel
set_option maxRecDepth 100000 in
def sa_k347 : List (Nat × Instr × Nat) := [(0, .aload_n 3, 1), (1, .iconst 0, 1), (2, .aload_n 0, 1), (3, .iload_n 1, 1), (4, .iload_n 2, 1), (5, .invokevirtual 93, 3), (8, .i2l, 1), (9, .lastore, 1), (10, .goto 7, 3), (13, .astore 4, 2), (15, .iconst 1, 1), (16, .ireturn, 1), (17, .iconst 0, 1), (18, .ireturn, 1)]
set_option maxRecDepth 100000 in
theorem sa_kv347 : ∀ q ∈ sa_k347, decode cL_lacking q.1 = .ok q.2 ∧ sa_ln q.2.1 q.2.2 = true := by decide +kernel
set_option maxRecDepth 100000 in
def sa_k348 : List (Nat × Instr × Nat) := [(0, .aload_n 2, 1), (1, .iconst 0, 1), (2, .aload_n 0, 1), (3, .iload_n 1, 1), (4, .invokevirtual 96, 3), (7, .i2l, 1), (8, .lastore, 1), (9, .goto 6, 3), (12, .astore_n 3, 1), (13, .iconst 1, 1), (14, .ireturn, 1), (15, .iconst 0, 1), (16, .ireturn, 1)]
set_option maxRecDepth 100000 in
theorem sa_kv348 : ∀ q ∈ sa_k348, decode cL_firm q.1 = .ok q.2 ∧ sa_ln q.2.1 q.2.2 = true := by decide +kernel
set_option maxRecDepth 100000 in
def sa_k349 : List (Nat × Instr × Nat) := [(0, .aload_n 2, 1), (1, .iconst 0, 1), (2, .aload_n 0, 1), (3, .iload_n 1, 1), (4, .invokevirtual 99, 3), (7, .i2l, 1), (8, .lastore, 1), (9, .goto 6, 3), (12, .astore_n 3, 1), (13, .iconst 1, 1), (14, .ireturn, 1), (15, .iconst 0, 1), (16, .ireturn, 1)]
set_option maxRecDepth 100000 in
theorem sa_kv349 : ∀ q ∈ sa_k349, decode cL_loot q.1 = .ok q.2 ∧ sa_ln q.2.1 q.2.2 = true := by decide +kernel
set_option maxRecDepth 100000 in
def sa_k350 : List (Nat × Instr × Nat) := [(0, .aload_n 3, 1), (1, .iconst 0, 1), (2, .aload_n 0, 1), (3, .iload_n 1, 1), (4, .iload_n 2, 1), (5, .invokevirtual 102, 3), (8, .i2l, 1), (9, .lastore, 1), (10, .goto 11, 3), (13, .astore 4, 2), (15, .iconst 1, 1), (16, .ireturn, 1), (17, .astore 4, 2), (19, .iconst 2, 1), (20, .ireturn, 1), (21, .iconst 0, 1), (22, .ireturn, 1)]
set_option maxRecDepth 100000 in
theorem sa_kv350 : ∀ q ∈ sa_k350, decode cL_offer q.1 = .ok q.2 ∧ sa_ln q.2.1 q.2.2 = true := by decide +kernel
set_option maxRecDepth 100000 in
def sa_k351 : List (Nat × Instr × Nat) := [(0, .aload_n 2, 1), (1, .iconst 0, 1), (2, .aload_n 0, 1), (3, .iload_n 1, 1), (4, .invokevirtual 105, 3), (7, .i2l, 1), (8, .lastore, 1), (9, .goto 6, 3), (12, .astore_n 3, 1), (13, .iconst 1, 1), (14, .ireturn, 1), (15, .iconst 0, 1), (16, .ireturn, 1)]
set_option maxRecDepth 100000 in
theorem sa_kv351 : ∀ q ∈ sa_k351, decode cL_alone q.1 = .ok q.2 ∧ sa_ln q.2.1 q.2.2 = true := by decide +kernel
end
section
set_option maxRecDepth 100000 in
def sa_k352 : List (Nat × Instr × Nat) := [(0, .iload_n 0, 1), (1, .iload_n 0, 1), (2, .iconst 1, 1), (3, .iushr, 1), (4, .ldc_w 265, 3), (7, .iand, 1), (8, .isub, 1), (9, .istore_n 0, 1), (10, .iload_n 0, 1), (11, .ldc_w 266, 3), (14, .iand, 1), (15, .iload_n 0, 1), (16, .iconst 2, 1), (17, .iushr, 1), (18, .ldc_w 266, 3), (21, .iand, 1), (22, .iadd, 1), (23, .istore_n 0, 1), (24, .iload_n 0, 1), (25, .iload_n 0, 1), (26, .iconst 4, 1), (27, .iushr, 1), (28, .iadd, 1), (29, .ldc_w 267, 3), (32, .iand, 1), (33, .istore_n 0, 1), (34, .iload_n 0, 1), (35, .iload_n 0, 1), (36, .bipush 8, 2), (38, .iushr, 1), (39, .iadd, 1), (40, .istore_n 0, 1), (41, .iload_n 0, 1), (42, .iload_n 0, 1), (43, .bipush 16, 2), (45, .iushr, 1), (46, .iadd, 1), (47, .istore_n 0, 1), (48, .iload_n 0, 1), (49, .bipush 63, 2), (51, .iand, 1), (52, .ireturn, 1)]
set_option maxRecDepth 100000 in
theorem sa_kv352 : ∀ q ∈ sa_k352, decode cJ6_bitCount_0f7a4 q.1 = .ok q.2 ∧ sa_ln q.2.1 q.2.2 = true := by decide +kernel
set_option maxRecDepth 100000 in
def sa_k353 : List (Nat × Instr × Nat) := [(0, .iconst 0, 1), (1, .istore_n 3, 1), (2, .aload_n 0, 1), (3, .arraylength, 1), (4, .istore 4, 2), (6, .iload_n 3, 1), (7, .iload 4, 2), (9, .if_icmp .ge 13, 3), (12, .aload_n 0, 1), (13, .iload_n 3, 1), (14, .lload_n 1, 1), (15, .lastore, 1), (16, .iinc 3 1, 3), (19, .goto (-13), 3), (22, .return_, 1)]
set_option maxRecDepth 100000 in
theorem sa_kv353 : ∀ q ∈ sa_k353, decode cJ7_fill_d0a16 q.1 = .ok q.2 ∧ sa_ln q.2.1 q.2.2 = true := by decide +kernel
set_option maxRecDepth 100000 in
def sa_k354 : List (Nat × Instr × Nat) := [(0, .iconst 0, 1), (1, .istore_n 2, 1), (2, .aload_n 0, 1), (3, .arraylength, 1), (4, .istore_n 3, 1), (5, .iload_n 2, 1), (6, .iload_n 3, 1), (7, .if_icmp .ge 13, 3), (10, .aload_n 0, 1), (11, .iload_n 2, 1), (12, .iload_n 1, 1), (13, .iastore, 1), (14, .iinc 2 1, 3), (17, .goto (-12), 3), (20, .return_, 1)]
set_option maxRecDepth 100000 in
theorem sa_kv354 : ∀ q ∈ sa_k354, decode cJ7_fill_53178 q.1 = .ok q.2 ∧ sa_ln q.2.1 q.2.2 = true := by decide +kernel
set_option maxRecDepth 100000 in
def sa_k355 : List (Nat × Instr × Nat) := [(0, .aload_n 0, 1), (1, .getfield 9, 3), (4, .arraylength, 1), (5, .aload_n 0, 1), (6, .invokevirtual 335, 3), (9, .ishr, 1), (10, .ireturn, 1)]
set_option maxRecDepth 100000 in
theorem sa_kv355 : ∀ q ∈ sa_k355, decode cJ0_length_8abf5 q.1 = .ok q.2 ∧ sa_ln q.2.1 q.2.2 = true := by decide +kernel
set_option maxRecDepth 100000 in
def sa_k356 : List (Nat × Instr × Nat) := [(0, .aload_n 0, 1), (1, .invokevirtual 492, 3), (4, .ifCond .eq 12, 3), (7, .aload_n 0, 1), (8, .getfield 9, 3), (11, .iload_n 1, 1), (12, .invokestatic 495, 3), (15, .ireturn, 1), (16, .aload_n 0, 1), (17, .getfield 9, 3), (20, .iload_n 1, 1), (21, .invokestatic 498, 3), (24, .ireturn, 1)]
set_option maxRecDepth 100000 in
theorem sa_kv356 : ∀ q ∈ sa_k356, decode cJ0_charAt_5068e q.1 = .ok q.2 ∧ sa_ln q.2.1 q.2.2 = true := by decide +kernel
set_option maxRecDepth 100000 in
def sa_k357 : List (Nat × Instr × Nat) := [(0, .getstatic 38, 3), (3, .ifCond .eq 10, 3), (6, .aload_n 0, 1), (7, .getfield 15, 3), (10, .goto 4, 3), (13, .iconst 1, 1), (14, .ireturn, 1)]
set_option maxRecDepth 100000 in
theorem sa_kv357 : ∀ q ∈ sa_k357, decode cJ0_coder_7d493 q.1 = .ok q.2 ∧ sa_ln q.2.1 q.2.2 = true := by decide +kernel
set_option maxRecDepth 100000 in
def sa_k358 : List (Nat × Instr × Nat) := [(0, .getstatic 38, 3), (3, .ifCond .eq 14, 3), (6, .aload_n 0, 1), (7, .getfield 15, 3), (10, .ifCond .ne 7, 3), (13, .iconst 1, 1), (14, .goto 4, 3), (17, .iconst 0, 1), (18, .ireturn, 1)]
set_option maxRecDepth 100000 in
theorem sa_kv358 : ∀ q ∈ sa_k358, decode cJ0_isLatin1_aae02 q.1 = .ok q.2 ∧ sa_ln q.2.1 q.2.2 = true := by decide +kernel
set_option maxRecDepth 100000 in
def sa_k359 : List (Nat × Instr × Nat) := [(0, .iload_n 0, 1), (1, .iload_n 1, 1), (2, .getstatic 1053, 3), (5, .invokestatic 1059, 3), (8, .pop, 1), (9, .return_, 1)]
set_option maxRecDepth 100000 in
theorem sa_kv359 : ∀ q ∈ sa_k359, decode cJ0_checkIndex_df160 q.1 = .ok q.2 ∧ sa_ln q.2.1 q.2.2 = true := by decide +kernel
set_option maxRecDepth 100000 in
def sa_k360 : List (Nat × Instr × Nat) := [(0, .iload_n 1, 1), (1, .aload_n 0, 1), (2, .arraylength, 1), (3, .invokestatic 9, 3), (6, .aload_n 0, 1), (7, .iload_n 1, 1), (8, .baload, 1), (9, .sipush 255, 3), (12, .iand, 1), (13, .i2c, 1), (14, .ireturn, 1)]
set_option maxRecDepth 100000 in
theorem sa_kv360 : ∀ q ∈ sa_k360, decode cJ1_charAt_3b067 q.1 = .ok q.2 ∧ sa_ln q.2.1 q.2.2 = true := by decide +kernel
set_option maxRecDepth 100000 in
def sa_k361 : List (Nat × Instr × Nat) := [(0, .iload_n 0, 1), (1, .ifCond .lt 8, 3), (4, .iload_n 0, 1), (5, .iload_n 1, 1), (6, .if_icmp .lt 10, 3), (9, .aload_n 2, 1), (10, .iload_n 0, 1), (11, .iload_n 1, 1), (12, .invokestatic 95, 3), (15, .athrow, 1), (16, .iload_n 0, 1), (17, .ireturn, 1)]
set_option maxRecDepth 100000 in
theorem sa_kv361 : ∀ q ∈ sa_k361, decode cJ3_checkIndex_8e157 q.1 = .ok q.2 ∧ sa_ln q.2.1 q.2.2 = true := by decide +kernel
end
section
def sa_k362_0 : List (Nat × Instr × Nat) := [(0, .new 8, 3), (3, .dup, 1), (4, .invokespecial 108, 3), (7, .astore_n 1, 1), (8, .new 109, 3), (11, .dup, 1), (12, .invokespecial 111, 3), (15, .astore_n 2, 1), (16, .iconst 1, 1), (17, .newarray .long, 2), (19, .astore_n 3, 1), (20, .iconst 0, 1), (21, .istore 4, 2), (23, .iload 4, 2), (25, .aload_n 0, 1), (26, .arraylength, 1), (27, .bipush 6, 2), (29, .isub, 1), (30, .if_icmp .gt 2414, 3), (33, .aload_n 0, 1), (34, .iload 4, 2), (36, .iaload, 1), (37, .bipush 63, 2), (39, .iand, 1), (40, .tableswitch 2398 0 40 #[180, 253, 309, 322, 378, 446, 514, 582, 607, 670, 695, 791, 804, 872, 928, 1015, 1071, 1127, 1195, 1251, 1307, 1375, 1443, 1456, 1524, 1632, 1643, 1723, 1803, 1895, 1975, 2031, 2099, 2112, 2168, 2224, 2292, 2348, 2361, 2374, 2385], 180), (220, .aload_n 1, 1), (221, .aload_n 0, 1), (222, .iload 4, 2), (224, .iconst 1, 1), (225, .iadd, 1), (226, .iaload, 1), (227, .aload_n 0, 1), (228, .iload 4, 2), (230, .iconst 2, 1), (231, .iadd, 1), (232, .iaload, 1), (233, .aload_n 0, 1), (234, .iload 4, 2), (236, .iconst 3, 1), (237, .iadd, 1), (238, .iaload, 1), (239, .aload_n 0, 1), (240, .iload 4, 2), (242, .iconst 4, 1), (243, .iadd, 1), (244, .iaload, 1), (245, .aload_n 0, 1), (246, .iload 4, 2), (248, .iconst 5, 1), (249, .iadd, 1), (250, .iaload, 1), (251, .invokevirtual 112, 3), (254, .aload_n 2, 1), (255, .aload_n 0, 1), (256, .iload 4, 2), (258, .iconst 1, 1), (259, .iadd, 1), (260, .iaload, 1), (261, .aload_n 0, 1), (262, .iload 4, 2)]
set_option maxRecDepth 100000 in
theorem sa_kv362_0 : ∀ q ∈ sa_k362_0, decode code q.1 = .ok q.2 ∧ sa_ln q.2.1 q.2.2 = true := by decide +kernel
def sa_k362_1 : List (Nat × Instr × Nat) := [(264, .iconst 2, 1), (265, .iadd, 1), (266, .iaload, 1), (267, .aload_n 0, 1), (268, .iload 4, 2), (270, .iconst 3, 1), (271, .iadd, 1), (272, .iaload, 1), (273, .aload_n 0, 1), (274, .iload 4, 2), (276, .iconst 4, 1), (277, .iadd, 1), (278, .iaload, 1), (279, .aload_n 0, 1), (280, .iload 4, 2), (282, .iconst 5, 1), (283, .iadd, 1), (284, .iaload, 1), (285, .invokevirtual 116, 3), (288, .if_icmp .eq 2150, 3), (291, .iconst 0, 1), (292, .ireturn, 1), (293, .aload_n 1, 1), (294, .aload_n 0, 1), (295, .iload 4, 2), (297, .iconst 1, 1), (298, .iadd, 1), (299, .iaload, 1), (300, .aload_n 3, 1), (301, .invokestatic 117, 3), (304, .istore 5, 2), (306, .aload_n 2, 1), (307, .aload_n 0, 1), (308, .iload 4, 2), (310, .iconst 1, 1), (311, .iadd, 1), (312, .iaload, 1), (313, .invokevirtual 122, 3), (316, .istore 6, 2), (318, .aload_n 2, 1), (319, .invokevirtual 123, 3), (322, .iload 5, 2), (324, .if_icmp .eq 5, 3), (327, .iconst 0, 1), (328, .ireturn, 1), (329, .iload 5, 2), (331, .ifCond .ne 15, 3), (334, .aload_n 3, 1), (335, .iconst 0, 1), (336, .laload, 1), (337, .iload 6, 2), (339, .i2l, 1), (340, .lcmp, 1), (341, .ifCond .eq 5, 3), (344, .iconst 0, 1), (345, .ireturn, 1), (346, .goto 2092, 3), (349, .aload_n 1, 1), (350, .invokevirtual 127, 3), (353, .aload_n 2, 1)]
set_option maxRecDepth 100000 in
theorem sa_kv362_1 : ∀ q ∈ sa_k362_1, decode code q.1 = .ok q.2 ∧ sa_ln q.2.1 q.2.2 = true := by decide +kernel
def sa_k362_2 : List (Nat × Instr × Nat) := [(354, .invokevirtual 130, 3), (357, .if_icmp .eq 2081, 3), (360, .iconst 0, 1), (361, .ireturn, 1), (362, .aload_n 1, 1), (363, .aload_n 0, 1), (364, .iload 4, 2), (366, .iconst 1, 1), (367, .iadd, 1), (368, .iaload, 1), (369, .aload_n 3, 1), (370, .invokestatic 131, 3), (373, .istore 5, 2), (375, .aload_n 2, 1), (376, .aload_n 0, 1), (377, .iload 4, 2), (379, .iconst 1, 1), (380, .iadd, 1), (381, .iaload, 1), (382, .invokevirtual 133, 3), (385, .istore 6, 2), (387, .aload_n 2, 1), (388, .invokevirtual 123, 3), (391, .iload 5, 2), (393, .if_icmp .eq 5, 3), (396, .iconst 0, 1), (397, .ireturn, 1), (398, .iload 5, 2), (400, .ifCond .ne 15, 3), (403, .aload_n 3, 1), (404, .iconst 0, 1), (405, .laload, 1), (406, .iload 6, 2), (408, .i2l, 1), (409, .lcmp, 1), (410, .ifCond .eq 5, 3), (413, .iconst 0, 1), (414, .ireturn, 1), (415, .goto 2023, 3), (418, .aload_n 1, 1), (419, .aload_n 0, 1), (420, .iload 4, 2), (422, .iconst 1, 1), (423, .iadd, 1), (424, .iaload, 1), (425, .aload_n 0, 1), (426, .iload 4, 2), (428, .iconst 2, 1), (429, .iadd, 1), (430, .iaload, 1), (431, .aload_n 3, 1), (432, .invokestatic 134, 3), (435, .istore 5, 2), (437, .aload_n 2, 1), (438, .aload_n 0, 1), (439, .iload 4, 2), (441, .iconst 1, 1), (442, .iadd, 1), (443, .iaload, 1), (444, .aload_n 0, 1)]
set_option maxRecDepth 100000 in
theorem sa_kv362_2 : ∀ q ∈ sa_k362_2, decode code q.1 = .ok q.2 ∧ sa_ln q.2.1 q.2.2 = true := by decide +kernel
def sa_k362_3 : List (Nat × Instr × Nat) := [(445, .iload 4, 2), (447, .iconst 2, 1), (448, .iadd, 1), (449, .iaload, 1), (450, .invokevirtual 137, 3), (453, .istore 6, 2), (455, .aload_n 2, 1), (456, .invokevirtual 123, 3), (459, .iload 5, 2), (461, .if_icmp .eq 5, 3), (464, .iconst 0, 1), (465, .ireturn, 1), (466, .iload 5, 2), (468, .ifCond .ne 15, 3), (471, .aload_n 3, 1), (472, .iconst 0, 1), (473, .laload, 1), (474, .iload 6, 2), (476, .i2l, 1), (477, .lcmp, 1), (478, .ifCond .eq 5, 3), (481, .iconst 0, 1), (482, .ireturn, 1), (483, .goto 1955, 3), (486, .aload_n 1, 1), (487, .aload_n 0, 1), (488, .iload 4, 2), (490, .iconst 1, 1), (491, .iadd, 1), (492, .iaload, 1), (493, .aload_n 0, 1), (494, .iload 4, 2), (496, .iconst 2, 1), (497, .iadd, 1), (498, .iaload, 1), (499, .aload_n 3, 1), (500, .invokestatic 138, 3), (503, .istore 5, 2), (505, .aload_n 2, 1), (506, .aload_n 0, 1), (507, .iload 4, 2), (509, .iconst 1, 1), (510, .iadd, 1), (511, .iaload, 1), (512, .aload_n 0, 1), (513, .iload 4, 2), (515, .iconst 2, 1), (516, .iadd, 1), (517, .iaload, 1), (518, .invokevirtual 140, 3), (521, .istore 6, 2), (523, .aload_n 2, 1), (524, .invokevirtual 123, 3), (527, .iload 5, 2), (529, .if_icmp .eq 5, 3), (532, .iconst 0, 1), (533, .ireturn, 1), (534, .iload 5, 2), (536, .ifCond .ne 15, 3), (539, .aload_n 3, 1)]
set_option maxRecDepth 100000 in
theorem sa_kv362_3 : ∀ q ∈ sa_k362_3, decode code q.1 = .ok q.2 ∧ sa_ln q.2.1 q.2.2 = true := by decide +kernel
def sa_k362_4 : List (Nat × Instr × Nat) := [(540, .iconst 0, 1), (541, .laload, 1), (542, .iload 6, 2), (544, .i2l, 1), (545, .lcmp, 1), (546, .ifCond .eq 5, 3), (549, .iconst 0, 1), (550, .ireturn, 1), (551, .goto 1887, 3), (554, .aload_n 1, 1), (555, .aload_n 0, 1), (556, .iload 4, 2), (558, .iconst 1, 1), (559, .iadd, 1), (560, .iaload, 1), (561, .aload_n 0, 1), (562, .iload 4, 2), (564, .iconst 2, 1), (565, .iadd, 1), (566, .iaload, 1), (567, .aload_n 3, 1), (568, .invokestatic 141, 3), (571, .istore 5, 2), (573, .aload_n 2, 1), (574, .aload_n 0, 1), (575, .iload 4, 2), (577, .iconst 1, 1), (578, .iadd, 1), (579, .iaload, 1), (580, .aload_n 0, 1), (581, .iload 4, 2), (583, .iconst 2, 1), (584, .iadd, 1), (585, .iaload, 1), (586, .invokevirtual 143, 3), (589, .istore 6, 2), (591, .aload_n 2, 1), (592, .invokevirtual 123, 3), (595, .iload 5, 2), (597, .if_icmp .eq 5, 3), (600, .iconst 0, 1), (601, .ireturn, 1), (602, .iload 5, 2), (604, .ifCond .ne 15, 3), (607, .aload_n 3, 1), (608, .iconst 0, 1), (609, .laload, 1), (610, .iload 6, 2), (612, .i2l, 1), (613, .lcmp, 1), (614, .ifCond .eq 5, 3), (617, .iconst 0, 1), (618, .ireturn, 1), (619, .goto 1819, 3), (622, .aload_n 1, 1), (623, .aload_n 0, 1), (624, .iload 4, 2), (626, .iconst 1, 1), (627, .iadd, 1), (628, .iaload, 1)]
set_option maxRecDepth 100000 in
theorem sa_kv362_4 : ∀ q ∈ sa_k362_4, decode code q.1 = .ok q.2 ∧ sa_ln q.2.1 q.2.2 = true := by decide +kernel
def sa_k362_5 : List (Nat × Instr × Nat) := [(629, .invokevirtual 144, 3), (632, .aload_n 2, 1), (633, .aload_n 0, 1), (634, .iload 4, 2), (636, .iconst 1, 1), (637, .iadd, 1), (638, .iaload, 1), (639, .invokevirtual 147, 3), (642, .if_icmp .eq 1796, 3), (645, .iconst 0, 1), (646, .ireturn, 1), (647, .aload_n 1, 1), (648, .aload_n 0, 1), (649, .iload 4, 2), (651, .iconst 1, 1), (652, .iadd, 1), (653, .iaload, 1), (654, .aload_n 3, 1), (655, .invokestatic 148, 3), (658, .istore 5, 2), (660, .aload_n 2, 1), (661, .aload_n 0, 1), (662, .iload 4, 2), (664, .iconst 1, 1), (665, .iadd, 1), (666, .iaload, 1), (667, .invokevirtual 150, 3), (670, .istore 6, 2), (672, .aload_n 2, 1), (673, .invokevirtual 123, 3), (676, .iload 5, 2), (678, .if_icmp .eq 5, 3), (681, .iconst 0, 1), (682, .ireturn, 1), (683, .iload 5, 2), (685, .ifCond .ne 22, 3), (688, .aload_n 3, 1), (689, .iconst 0, 1), (690, .laload, 1), (691, .iload 6, 2), (693, .ifCond .eq 7, 3), (696, .lconst 1, 1), (697, .goto 4, 3), (700, .lconst 0, 1), (701, .lcmp, 1), (702, .ifCond .eq 5, 3), (705, .iconst 0, 1), (706, .ireturn, 1), (707, .goto 1731, 3), (710, .aload_n 1, 1), (711, .aload_n 0, 1), (712, .iload 4, 2), (714, .iconst 1, 1), (715, .iadd, 1), (716, .iaload, 1), (717, .invokevirtual 151, 3), (720, .aload_n 2, 1), (721, .aload_n 0, 1), (722, .iload 4, 2), (724, .iconst 1, 1)]
set_option maxRecDepth 100000 in
theorem sa_kv362_5 : ∀ q ∈ sa_k362_5, decode code q.1 = .ok q.2 ∧ sa_ln q.2.1 q.2.2 = true := by decide +kernel
def sa_k362_6 : List (Nat × Instr × Nat) := [(725, .iadd, 1), (726, .iaload, 1), (727, .invokevirtual 154, 3), (730, .if_icmp .eq 1708, 3), (733, .iconst 0, 1), (734, .ireturn, 1), (735, .aload_n 1, 1), (736, .aload_n 0, 1), (737, .iload 4, 2), (739, .iconst 1, 1), (740, .iadd, 1), (741, .iaload, 1), (742, .aload_n 0, 1), (743, .iload 4, 2), (745, .iconst 2, 1), (746, .iadd, 1), (747, .iaload, 1), (748, .aload_n 0, 1), (749, .iload 4, 2), (751, .iconst 3, 1), (752, .iadd, 1), (753, .iaload, 1), (754, .ifCond .eq 7, 3), (757, .iconst 1, 1), (758, .goto 4, 3), (761, .iconst 0, 1), (762, .aload_n 3, 1), (763, .invokestatic 155, 3), (766, .istore 5, 2), (768, .aload_n 2, 1), (769, .aload_n 0, 1), (770, .iload 4, 2), (772, .iconst 1, 1), (773, .iadd, 1), (774, .iaload, 1), (775, .aload_n 0, 1), (776, .iload 4, 2), (778, .iconst 2, 1), (779, .iadd, 1), (780, .iaload, 1), (781, .aload_n 0, 1), (782, .iload 4, 2), (784, .iconst 3, 1), (785, .iadd, 1), (786, .iaload, 1), (787, .ifCond .eq 7, 3), (790, .iconst 1, 1), (791, .goto 4, 3), (794, .iconst 0, 1), (795, .invokevirtual 158, 3), (798, .istore 6, 2), (800, .aload_n 2, 1), (801, .invokevirtual 123, 3), (804, .iload 5, 2), (806, .if_icmp .eq 5, 3), (809, .iconst 0, 1), (810, .ireturn, 1), (811, .iload 5, 2), (813, .ifCond .ne 15, 3), (816, .aload_n 3, 1)]
set_option maxRecDepth 100000 in
theorem sa_kv362_6 : ∀ q ∈ sa_k362_6, decode code q.1 = .ok q.2 ∧ sa_ln q.2.1 q.2.2 = true := by decide +kernel
def sa_k362_7 : List (Nat × Instr × Nat) := [(817, .iconst 0, 1), (818, .laload, 1), (819, .iload 6, 2), (821, .i2l, 1), (822, .lcmp, 1), (823, .ifCond .eq 5, 3), (826, .iconst 0, 1), (827, .ireturn, 1), (828, .goto 1610, 3), (831, .aload_n 1, 1), (832, .invokevirtual 159, 3), (835, .aload_n 2, 1), (836, .invokevirtual 162, 3), (839, .if_icmp .eq 1599, 3), (842, .iconst 0, 1), (843, .ireturn, 1), (844, .aload_n 1, 1), (845, .aload_n 0, 1), (846, .iload 4, 2), (848, .iconst 1, 1), (849, .iadd, 1), (850, .iaload, 1), (851, .aload_n 0, 1), (852, .iload 4, 2), (854, .iconst 2, 1), (855, .iadd, 1), (856, .iaload, 1), (857, .aload_n 3, 1), (858, .invokestatic 163, 3), (861, .istore 5, 2), (863, .aload_n 2, 1), (864, .aload_n 0, 1), (865, .iload 4, 2), (867, .iconst 1, 1), (868, .iadd, 1), (869, .iaload, 1), (870, .aload_n 0, 1), (871, .iload 4, 2), (873, .iconst 2, 1), (874, .iadd, 1), (875, .iaload, 1), (876, .invokevirtual 165, 3), (879, .istore 6, 2), (881, .aload_n 2, 1), (882, .invokevirtual 123, 3), (885, .iload 5, 2), (887, .if_icmp .eq 5, 3), (890, .iconst 0, 1), (891, .ireturn, 1), (892, .iload 5, 2), (894, .ifCond .ne 15, 3), (897, .aload_n 3, 1), (898, .iconst 0, 1), (899, .laload, 1), (900, .iload 6, 2), (902, .i2l, 1), (903, .lcmp, 1), (904, .ifCond .eq 5, 3), (907, .iconst 0, 1), (908, .ireturn, 1)]
set_option maxRecDepth 100000 in
theorem sa_kv362_7 : ∀ q ∈ sa_k362_7, decode code q.1 = .ok q.2 ∧ sa_ln q.2.1 q.2.2 = true := by decide +kernel
def sa_k362_8 : List (Nat × Instr × Nat) := [(909, .goto 1529, 3), (912, .aload_n 1, 1), (913, .aload_n 0, 1), (914, .iload 4, 2), (916, .iconst 1, 1), (917, .iadd, 1), (918, .iaload, 1), (919, .aload_n 3, 1), (920, .invokestatic 166, 3), (923, .istore 5, 2), (925, .aload_n 2, 1), (926, .aload_n 0, 1), (927, .iload 4, 2), (929, .iconst 1, 1), (930, .iadd, 1), (931, .iaload, 1), (932, .invokevirtual 168, 3), (935, .istore 6, 2), (937, .aload_n 2, 1), (938, .invokevirtual 123, 3), (941, .iload 5, 2), (943, .if_icmp .eq 5, 3), (946, .iconst 0, 1), (947, .ireturn, 1), (948, .iload 5, 2), (950, .ifCond .ne 15, 3), (953, .aload_n 3, 1), (954, .iconst 0, 1), (955, .laload, 1), (956, .iload 6, 2), (958, .i2l, 1), (959, .lcmp, 1), (960, .ifCond .eq 5, 3), (963, .iconst 0, 1), (964, .ireturn, 1), (965, .goto 1473, 3), (968, .aload_n 1, 1), (969, .aload_n 0, 1), (970, .iload 4, 2), (972, .iconst 1, 1), (973, .iadd, 1), (974, .iaload, 1), (975, .aload_n 0, 1), (976, .iload 4, 2), (978, .iconst 2, 1), (979, .iadd, 1), (980, .iaload, 1), (981, .aload_n 0, 1), (982, .iload 4, 2), (984, .iconst 3, 1), (985, .iadd, 1), (986, .iaload, 1), (987, .aload_n 3, 1), (988, .invokestatic 169, 3), (991, .istore 5, 2), (993, .aload_n 2, 1), (994, .aload_n 0, 1), (995, .iload 4, 2), (997, .iconst 1, 1), (998, .iadd, 1)]
set_option maxRecDepth 100000 in
theorem sa_kv362_8 : ∀ q ∈ sa_k362_8, decode code q.1 = .ok q.2 ∧ sa_ln q.2.1 q.2.2 = true := by decide +kernel
def sa_k362_9 : List (Nat × Instr × Nat) := [(999, .iaload, 1), (1000, .aload_n 0, 1), (1001, .iload 4, 2), (1003, .iconst 2, 1), (1004, .iadd, 1), (1005, .iaload, 1), (1006, .aload_n 0, 1), (1007, .iload 4, 2), (1009, .iconst 3, 1), (1010, .iadd, 1), (1011, .iaload, 1), (1012, .invokevirtual 172, 3), (1015, .istore 6, 2), (1017, .aload_n 2, 1), (1018, .invokevirtual 123, 3), (1021, .iload 5, 2), (1023, .if_icmp .eq 5, 3), (1026, .iconst 0, 1), (1027, .ireturn, 1), (1028, .iload 5, 2), (1030, .ifCond .ne 22, 3), (1033, .aload_n 3, 1), (1034, .iconst 0, 1), (1035, .laload, 1), (1036, .iload 6, 2), (1038, .ifCond .eq 7, 3), (1041, .lconst 1, 1), (1042, .goto 4, 3), (1045, .lconst 0, 1), (1046, .lcmp, 1), (1047, .ifCond .eq 5, 3), (1050, .iconst 0, 1), (1051, .ireturn, 1), (1052, .goto 1386, 3), (1055, .aload_n 1, 1), (1056, .aload_n 0, 1), (1057, .iload 4, 2), (1059, .iconst 1, 1), (1060, .iadd, 1), (1061, .iaload, 1), (1062, .aload_n 3, 1), (1063, .invokestatic 173, 3), (1066, .istore 5, 2), (1068, .aload_n 2, 1), (1069, .aload_n 0, 1), (1070, .iload 4, 2), (1072, .iconst 1, 1), (1073, .iadd, 1), (1074, .iaload, 1), (1075, .invokevirtual 175, 3), (1078, .istore 6, 2), (1080, .aload_n 2, 1), (1081, .invokevirtual 123, 3), (1084, .iload 5, 2), (1086, .if_icmp .eq 5, 3), (1089, .iconst 0, 1), (1090, .ireturn, 1), (1091, .iload 5, 2), (1093, .ifCond .ne 15, 3), (1096, .aload_n 3, 1)]
set_option maxRecDepth 100000 in
theorem sa_kv362_9 : ∀ q ∈ sa_k362_9, decode code q.1 = .ok q.2 ∧ sa_ln q.2.1 q.2.2 = true := by decide +kernel
def sa_k362_10 : List (Nat × Instr × Nat) := [(1097, .iconst 0, 1), (1098, .laload, 1), (1099, .iload 6, 2), (1101, .i2l, 1), (1102, .lcmp, 1), (1103, .ifCond .eq 5, 3), (1106, .iconst 0, 1), (1107, .ireturn, 1), (1108, .goto 1330, 3), (1111, .aload_n 1, 1), (1112, .aload_n 0, 1), (1113, .iload 4, 2), (1115, .iconst 1, 1), (1116, .iadd, 1), (1117, .iaload, 1), (1118, .aload_n 3, 1), (1119, .invokestatic 176, 3), (1122, .istore 5, 2), (1124, .aload_n 2, 1), (1125, .aload_n 0, 1), (1126, .iload 4, 2), (1128, .iconst 1, 1), (1129, .iadd, 1), (1130, .iaload, 1), (1131, .invokevirtual 178, 3), (1134, .istore 6, 2), (1136, .aload_n 2, 1), (1137, .invokevirtual 123, 3), (1140, .iload 5, 2), (1142, .if_icmp .eq 5, 3), (1145, .iconst 0, 1), (1146, .ireturn, 1), (1147, .iload 5, 2), (1149, .ifCond .ne 15, 3), (1152, .aload_n 3, 1), (1153, .iconst 0, 1), (1154, .laload, 1), (1155, .iload 6, 2), (1157, .i2l, 1), (1158, .lcmp, 1), (1159, .ifCond .eq 5, 3), (1162, .iconst 0, 1), (1163, .ireturn, 1), (1164, .goto 1274, 3), (1167, .aload_n 1, 1), (1168, .aload_n 0, 1), (1169, .iload 4, 2), (1171, .iconst 1, 1), (1172, .iadd, 1), (1173, .iaload, 1), (1174, .aload_n 0, 1), (1175, .iload 4, 2), (1177, .iconst 2, 1), (1178, .iadd, 1), (1179, .iaload, 1), (1180, .aload_n 3, 1), (1181, .invokestatic 179, 3), (1184, .istore 5, 2), (1186, .aload_n 2, 1), (1187, .aload_n 0, 1)]
set_option maxRecDepth 100000 in
theorem sa_kv362_10 : ∀ q ∈ sa_k362_10, decode code q.1 = .ok q.2 ∧ sa_ln q.2.1 q.2.2 = true := by decide +kernel
def sa_k362_11 : List (Nat × Instr × Nat) := [(1188, .iload 4, 2), (1190, .iconst 1, 1), (1191, .iadd, 1), (1192, .iaload, 1), (1193, .aload_n 0, 1), (1194, .iload 4, 2), (1196, .iconst 2, 1), (1197, .iadd, 1), (1198, .iaload, 1), (1199, .invokevirtual 181, 3), (1202, .istore 6, 2), (1204, .aload_n 2, 1), (1205, .invokevirtual 123, 3), (1208, .iload 5, 2), (1210, .if_icmp .eq 5, 3), (1213, .iconst 0, 1), (1214, .ireturn, 1), (1215, .iload 5, 2), (1217, .ifCond .ne 15, 3), (1220, .aload_n 3, 1), (1221, .iconst 0, 1), (1222, .laload, 1), (1223, .iload 6, 2), (1225, .i2l, 1), (1226, .lcmp, 1), (1227, .ifCond .eq 5, 3), (1230, .iconst 0, 1), (1231, .ireturn, 1), (1232, .goto 1206, 3), (1235, .aload_n 1, 1), (1236, .aload_n 0, 1), (1237, .iload 4, 2), (1239, .iconst 1, 1), (1240, .iadd, 1), (1241, .iaload, 1), (1242, .aload_n 3, 1), (1243, .invokestatic 182, 3), (1246, .istore 5, 2), (1248, .aload_n 2, 1), (1249, .aload_n 0, 1), (1250, .iload 4, 2), (1252, .iconst 1, 1), (1253, .iadd, 1), (1254, .iaload, 1), (1255, .invokevirtual 184, 3), (1258, .istore 6, 2), (1260, .aload_n 2, 1), (1261, .invokevirtual 123, 3), (1264, .iload 5, 2), (1266, .if_icmp .eq 5, 3), (1269, .iconst 0, 1), (1270, .ireturn, 1), (1271, .iload 5, 2), (1273, .ifCond .ne 15, 3), (1276, .aload_n 3, 1), (1277, .iconst 0, 1), (1278, .laload, 1), (1279, .iload 6, 2), (1281, .i2l, 1), (1282, .lcmp, 1)]
set_option maxRecDepth 100000 in
theorem sa_kv362_11 : ∀ q ∈ sa_k362_11, decode code q.1 = .ok q.2 ∧ sa_ln q.2.1 q.2.2 = true := by decide +kernel
def sa_k362_12 : List (Nat × Instr × Nat) := [(1283, .ifCond .eq 5, 3), (1286, .iconst 0, 1), (1287, .ireturn, 1), (1288, .goto 1150, 3), (1291, .aload_n 1, 1), (1292, .aload_n 0, 1), (1293, .iload 4, 2), (1295, .iconst 1, 1), (1296, .iadd, 1), (1297, .iaload, 1), (1298, .aload_n 3, 1), (1299, .invokestatic 185, 3), (1302, .istore 5, 2), (1304, .aload_n 2, 1), (1305, .aload_n 0, 1), (1306, .iload 4, 2), (1308, .iconst 1, 1), (1309, .iadd, 1), (1310, .iaload, 1), (1311, .invokevirtual 187, 3), (1314, .istore 6, 2), (1316, .aload_n 2, 1), (1317, .invokevirtual 123, 3), (1320, .iload 5, 2), (1322, .if_icmp .eq 5, 3), (1325, .iconst 0, 1), (1326, .ireturn, 1), (1327, .iload 5, 2), (1329, .ifCond .ne 15, 3), (1332, .aload_n 3, 1), (1333, .iconst 0, 1), (1334, .laload, 1), (1335, .iload 6, 2), (1337, .i2l, 1), (1338, .lcmp, 1), (1339, .ifCond .eq 5, 3), (1342, .iconst 0, 1), (1343, .ireturn, 1), (1344, .goto 1094, 3), (1347, .aload_n 1, 1), (1348, .aload_n 0, 1), (1349, .iload 4, 2), (1351, .iconst 1, 1), (1352, .iadd, 1), (1353, .iaload, 1), (1354, .aload_n 0, 1), (1355, .iload 4, 2), (1357, .iconst 2, 1), (1358, .iadd, 1), (1359, .iaload, 1), (1360, .aload_n 3, 1), (1361, .invokestatic 188, 3), (1364, .istore 5, 2), (1366, .aload_n 2, 1), (1367, .aload_n 0, 1), (1368, .iload 4, 2), (1370, .iconst 1, 1), (1371, .iadd, 1), (1372, .iaload, 1), (1373, .aload_n 0, 1)]
set_option maxRecDepth 100000 in
theorem sa_kv362_12 : ∀ q ∈ sa_k362_12, decode code q.1 = .ok q.2 ∧ sa_ln q.2.1 q.2.2 = true := by decide +kernel
def sa_k362_13 : List (Nat × Instr × Nat) := [(1374, .iload 4, 2), (1376, .iconst 2, 1), (1377, .iadd, 1), (1378, .iaload, 1), (1379, .invokevirtual 190, 3), (1382, .istore 6, 2), (1384, .aload_n 2, 1), (1385, .invokevirtual 123, 3), (1388, .iload 5, 2), (1390, .if_icmp .eq 5, 3), (1393, .iconst 0, 1), (1394, .ireturn, 1), (1395, .iload 5, 2), (1397, .ifCond .ne 15, 3), (1400, .aload_n 3, 1), (1401, .iconst 0, 1), (1402, .laload, 1), (1403, .iload 6, 2), (1405, .i2l, 1), (1406, .lcmp, 1), (1407, .ifCond .eq 5, 3), (1410, .iconst 0, 1), (1411, .ireturn, 1), (1412, .goto 1026, 3), (1415, .aload_n 1, 1), (1416, .aload_n 0, 1), (1417, .iload 4, 2), (1419, .iconst 1, 1), (1420, .iadd, 1), (1421, .iaload, 1), (1422, .aload_n 0, 1), (1423, .iload 4, 2), (1425, .iconst 2, 1), (1426, .iadd, 1), (1427, .iaload, 1), (1428, .aload_n 3, 1), (1429, .invokestatic 191, 3), (1432, .istore 5, 2), (1434, .aload_n 2, 1), (1435, .aload_n 0, 1), (1436, .iload 4, 2), (1438, .iconst 1, 1), (1439, .iadd, 1), (1440, .iaload, 1), (1441, .aload_n 0, 1), (1442, .iload 4, 2), (1444, .iconst 2, 1), (1445, .iadd, 1), (1446, .iaload, 1), (1447, .invokevirtual 193, 3), (1450, .istore 6, 2), (1452, .aload_n 2, 1), (1453, .invokevirtual 123, 3), (1456, .iload 5, 2), (1458, .if_icmp .eq 5, 3), (1461, .iconst 0, 1), (1462, .ireturn, 1), (1463, .iload 5, 2), (1465, .ifCond .ne 15, 3), (1468, .aload_n 3, 1)]
set_option maxRecDepth 100000 in
theorem sa_kv362_13 : ∀ q ∈ sa_k362_13, decode code q.1 = .ok q.2 ∧ sa_ln q.2.1 q.2.2 = true := by decide +kernel
def sa_k362_14 : List (Nat × Instr × Nat) := [(1469, .iconst 0, 1), (1470, .laload, 1), (1471, .iload 6, 2), (1473, .i2l, 1), (1474, .lcmp, 1), (1475, .ifCond .eq 5, 3), (1478, .iconst 0, 1), (1479, .ireturn, 1), (1480, .goto 958, 3), (1483, .aload_n 1, 1), (1484, .invokevirtual 194, 3), (1487, .aload_n 2, 1), (1488, .invokevirtual 197, 3), (1491, .if_icmp .eq 947, 3), (1494, .iconst 0, 1), (1495, .ireturn, 1), (1496, .aload_n 1, 1), (1497, .aload_n 0, 1), (1498, .iload 4, 2), (1500, .iconst 1, 1), (1501, .iadd, 1), (1502, .iaload, 1), (1503, .aload_n 0, 1), (1504, .iload 4, 2), (1506, .iconst 2, 1), (1507, .iadd, 1), (1508, .iaload, 1), (1509, .aload_n 3, 1), (1510, .invokestatic 198, 3), (1513, .istore 5, 2), (1515, .aload_n 2, 1), (1516, .aload_n 0, 1), (1517, .iload 4, 2), (1519, .iconst 1, 1), (1520, .iadd, 1), (1521, .iaload, 1), (1522, .aload_n 0, 1), (1523, .iload 4, 2), (1525, .iconst 2, 1), (1526, .iadd, 1), (1527, .iaload, 1), (1528, .invokevirtual 200, 3), (1531, .istore 6, 2), (1533, .aload_n 2, 1), (1534, .invokevirtual 123, 3), (1537, .iload 5, 2), (1539, .if_icmp .eq 5, 3), (1542, .iconst 0, 1), (1543, .ireturn, 1), (1544, .iload 5, 2), (1546, .ifCond .ne 15, 3), (1549, .aload_n 3, 1), (1550, .iconst 0, 1), (1551, .laload, 1), (1552, .iload 6, 2), (1554, .i2l, 1), (1555, .lcmp, 1), (1556, .ifCond .eq 5, 3), (1559, .iconst 0, 1), (1560, .ireturn, 1)]
set_option maxRecDepth 100000 in
theorem sa_kv362_14 : ∀ q ∈ sa_k362_14, decode code q.1 = .ok q.2 ∧ sa_ln q.2.1 q.2.2 = true := by decide +kernel
def sa_k362_15 : List (Nat × Instr × Nat) := [(1561, .goto 877, 3), (1564, .aload_n 1, 1), (1565, .aload_n 0, 1), (1566, .iload 4, 2), (1568, .iconst 1, 1), (1569, .iadd, 1), (1570, .iaload, 1), (1571, .aload_n 0, 1), (1572, .iload 4, 2), (1574, .iconst 2, 1), (1575, .iadd, 1), (1576, .iaload, 1), (1577, .aload_n 0, 1), (1578, .iload 4, 2), (1580, .iconst 3, 1), (1581, .iadd, 1), (1582, .iaload, 1), (1583, .aload_n 0, 1), (1584, .iload 4, 2), (1586, .iconst 4, 1), (1587, .iadd, 1), (1588, .iaload, 1), (1589, .ifCond .eq 7, 3), (1592, .iconst 1, 1), (1593, .goto 4, 3), (1596, .iconst 0, 1), (1597, .aload_n 3, 1), (1598, .invokestatic 201, 3), (1601, .istore 5, 2), (1603, .aload_n 2, 1), (1604, .aload_n 0, 1), (1605, .iload 4, 2), (1607, .iconst 1, 1), (1608, .iadd, 1), (1609, .iaload, 1), (1610, .aload_n 0, 1), (1611, .iload 4, 2), (1613, .iconst 2, 1), (1614, .iadd, 1), (1615, .iaload, 1), (1616, .aload_n 0, 1), (1617, .iload 4, 2), (1619, .iconst 3, 1), (1620, .iadd, 1), (1621, .iaload, 1), (1622, .aload_n 0, 1), (1623, .iload 4, 2), (1625, .iconst 4, 1), (1626, .iadd, 1), (1627, .iaload, 1), (1628, .ifCond .eq 7, 3), (1631, .iconst 1, 1), (1632, .goto 4, 3), (1635, .iconst 0, 1), (1636, .invokevirtual 204, 3), (1639, .istore 6, 2), (1641, .aload_n 2, 1), (1642, .invokevirtual 123, 3), (1645, .iload 5, 2), (1647, .if_icmp .eq 5, 3)]
set_option maxRecDepth 100000 in
theorem sa_kv362_15 : ∀ q ∈ sa_k362_15, decode code q.1 = .ok q.2 ∧ sa_ln q.2.1 q.2.2 = true := by decide +kernel
def sa_k362_16 : List (Nat × Instr × Nat) := [(1650, .iconst 0, 1), (1651, .ireturn, 1), (1652, .iload 5, 2), (1654, .ifCond .ne 15, 3), (1657, .aload_n 3, 1), (1658, .iconst 0, 1), (1659, .laload, 1), (1660, .iload 6, 2), (1662, .i2l, 1), (1663, .lcmp, 1), (1664, .ifCond .eq 5, 3), (1667, .iconst 0, 1), (1668, .ireturn, 1), (1669, .goto 769, 3), (1672, .aload_n 1, 1), (1673, .invokevirtual 205, 3), (1676, .aload_n 2, 1), (1677, .invokevirtual 208, 3), (1680, .goto 758, 3), (1683, .aload_n 1, 1), (1684, .aload_n 0, 1), (1685, .iload 4, 2), (1687, .iconst 1, 1), (1688, .iadd, 1), (1689, .iaload, 1), (1690, .aload_n 0, 1), (1691, .iload 4, 2), (1693, .iconst 2, 1), (1694, .iadd, 1), (1695, .iaload, 1), (1696, .aload_n 0, 1), (1697, .iload 4, 2), (1699, .iconst 3, 1), (1700, .iadd, 1), (1701, .iaload, 1), (1702, .aload_n 3, 1), (1703, .invokestatic 209, 3), (1706, .istore 5, 2), (1708, .aload_n 2, 1), (1709, .aload_n 0, 1), (1710, .iload 4, 2), (1712, .iconst 1, 1), (1713, .iadd, 1), (1714, .iaload, 1), (1715, .aload_n 0, 1), (1716, .iload 4, 2), (1718, .iconst 2, 1), (1719, .iadd, 1), (1720, .iaload, 1), (1721, .aload_n 0, 1), (1722, .iload 4, 2), (1724, .iconst 3, 1), (1725, .iadd, 1), (1726, .iaload, 1), (1727, .invokevirtual 211, 3), (1730, .istore 6, 2), (1732, .aload_n 2, 1), (1733, .invokevirtual 123, 3), (1736, .iload 5, 2), (1738, .if_icmp .eq 5, 3)]
set_option maxRecDepth 100000 in
theorem sa_kv362_16 : ∀ q ∈ sa_k362_16, decode code q.1 = .ok q.2 ∧ sa_ln q.2.1 q.2.2 = true := by decide +kernel
def sa_k362_17 : List (Nat × Instr × Nat) := [(1741, .iconst 0, 1), (1742, .ireturn, 1), (1743, .iload 5, 2), (1745, .ifCond .ne 15, 3), (1748, .aload_n 3, 1), (1749, .iconst 0, 1), (1750, .laload, 1), (1751, .iload 6, 2), (1753, .i2l, 1), (1754, .lcmp, 1), (1755, .ifCond .eq 5, 3), (1758, .iconst 0, 1), (1759, .ireturn, 1), (1760, .goto 678, 3), (1763, .aload_n 1, 1), (1764, .aload_n 0, 1), (1765, .iload 4, 2), (1767, .iconst 1, 1), (1768, .iadd, 1), (1769, .iaload, 1), (1770, .aload_n 0, 1), (1771, .iload 4, 2), (1773, .iconst 2, 1), (1774, .iadd, 1), (1775, .iaload, 1), (1776, .aload_n 0, 1), (1777, .iload 4, 2), (1779, .iconst 3, 1), (1780, .iadd, 1), (1781, .iaload, 1), (1782, .aload_n 3, 1), (1783, .invokestatic 212, 3), (1786, .istore 5, 2), (1788, .aload_n 2, 1), (1789, .aload_n 0, 1), (1790, .iload 4, 2), (1792, .iconst 1, 1), (1793, .iadd, 1), (1794, .iaload, 1), (1795, .aload_n 0, 1), (1796, .iload 4, 2), (1798, .iconst 2, 1), (1799, .iadd, 1), (1800, .iaload, 1), (1801, .aload_n 0, 1), (1802, .iload 4, 2), (1804, .iconst 3, 1), (1805, .iadd, 1), (1806, .iaload, 1), (1807, .invokevirtual 214, 3), (1810, .istore 6, 2), (1812, .aload_n 2, 1), (1813, .invokevirtual 123, 3), (1816, .iload 5, 2), (1818, .if_icmp .eq 5, 3), (1821, .iconst 0, 1), (1822, .ireturn, 1), (1823, .iload 5, 2), (1825, .ifCond .ne 15, 3), (1828, .aload_n 3, 1)]
set_option maxRecDepth 100000 in
theorem sa_kv362_17 : ∀ q ∈ sa_k362_17, decode code q.1 = .ok q.2 ∧ sa_ln q.2.1 q.2.2 = true := by decide +kernel
def sa_k362_18 : List (Nat × Instr × Nat) := [(1829, .iconst 0, 1), (1830, .laload, 1), (1831, .iload 6, 2), (1833, .i2l, 1), (1834, .lcmp, 1), (1835, .ifCond .eq 5, 3), (1838, .iconst 0, 1), (1839, .ireturn, 1), (1840, .goto 598, 3), (1843, .aload_n 1, 1), (1844, .aload_n 0, 1), (1845, .iload 4, 2), (1847, .iconst 1, 1), (1848, .iadd, 1), (1849, .iaload, 1), (1850, .aload_n 0, 1), (1851, .iload 4, 2), (1853, .iconst 2, 1), (1854, .iadd, 1), (1855, .iaload, 1), (1856, .aload_n 0, 1), (1857, .iload 4, 2), (1859, .iconst 3, 1), (1860, .iadd, 1), (1861, .iaload, 1), (1862, .aload_n 0, 1), (1863, .iload 4, 2), (1865, .iconst 4, 1), (1866, .iadd, 1), (1867, .iaload, 1), (1868, .aload_n 3, 1), (1869, .invokestatic 215, 3), (1872, .istore 5, 2), (1874, .aload_n 2, 1), (1875, .aload_n 0, 1), (1876, .iload 4, 2), (1878, .iconst 1, 1), (1879, .iadd, 1), (1880, .iaload, 1), (1881, .aload_n 0, 1), (1882, .iload 4, 2), (1884, .iconst 2, 1), (1885, .iadd, 1), (1886, .iaload, 1), (1887, .aload_n 0, 1), (1888, .iload 4, 2), (1890, .iconst 3, 1), (1891, .iadd, 1), (1892, .iaload, 1), (1893, .aload_n 0, 1), (1894, .iload 4, 2), (1896, .iconst 4, 1), (1897, .iadd, 1), (1898, .iaload, 1), (1899, .invokevirtual 218, 3), (1902, .istore 6, 2), (1904, .aload_n 2, 1), (1905, .invokevirtual 123, 3), (1908, .iload 5, 2), (1910, .if_icmp .eq 5, 3)]
set_option maxRecDepth 100000 in
theorem sa_kv362_18 : ∀ q ∈ sa_k362_18, decode code q.1 = .ok q.2 ∧ sa_ln q.2.1 q.2.2 = true := by decide +kernel
def sa_k362_19 : List (Nat × Instr × Nat) := [(1913, .iconst 0, 1), (1914, .ireturn, 1), (1915, .iload 5, 2), (1917, .ifCond .ne 15, 3), (1920, .aload_n 3, 1), (1921, .iconst 0, 1), (1922, .laload, 1), (1923, .iload 6, 2), (1925, .i2l, 1), (1926, .lcmp, 1), (1927, .ifCond .eq 5, 3), (1930, .iconst 0, 1), (1931, .ireturn, 1), (1932, .goto 506, 3), (1935, .aload_n 1, 1), (1936, .aload_n 0, 1), (1937, .iload 4, 2), (1939, .iconst 1, 1), (1940, .iadd, 1), (1941, .iaload, 1), (1942, .aload_n 0, 1), (1943, .iload 4, 2), (1945, .iconst 2, 1), (1946, .iadd, 1), (1947, .iaload, 1), (1948, .aload_n 0, 1), (1949, .iload 4, 2), (1951, .iconst 3, 1), (1952, .iadd, 1), (1953, .iaload, 1), (1954, .aload_n 3, 1), (1955, .invokestatic 219, 3), (1958, .istore 5, 2), (1960, .aload_n 2, 1), (1961, .aload_n 0, 1), (1962, .iload 4, 2), (1964, .iconst 1, 1), (1965, .iadd, 1), (1966, .iaload, 1), (1967, .aload_n 0, 1), (1968, .iload 4, 2), (1970, .iconst 2, 1), (1971, .iadd, 1), (1972, .iaload, 1), (1973, .aload_n 0, 1), (1974, .iload 4, 2), (1976, .iconst 3, 1), (1977, .iadd, 1), (1978, .iaload, 1), (1979, .invokevirtual 221, 3), (1982, .istore 6, 2), (1984, .aload_n 2, 1), (1985, .invokevirtual 123, 3), (1988, .iload 5, 2), (1990, .if_icmp .eq 5, 3), (1993, .iconst 0, 1), (1994, .ireturn, 1), (1995, .iload 5, 2), (1997, .ifCond .ne 15, 3), (2000, .aload_n 3, 1)]
set_option maxRecDepth 100000 in
theorem sa_kv362_19 : ∀ q ∈ sa_k362_19, decode code q.1 = .ok q.2 ∧ sa_ln q.2.1 q.2.2 = true := by decide +kernel
def sa_k362_20 : List (Nat × Instr × Nat) := [(2001, .iconst 0, 1), (2002, .laload, 1), (2003, .iload 6, 2), (2005, .i2l, 1), (2006, .lcmp, 1), (2007, .ifCond .eq 5, 3), (2010, .iconst 0, 1), (2011, .ireturn, 1), (2012, .goto 426, 3), (2015, .aload_n 1, 1), (2016, .aload_n 0, 1), (2017, .iload 4, 2), (2019, .iconst 1, 1), (2020, .iadd, 1), (2021, .iaload, 1), (2022, .aload_n 3, 1), (2023, .invokestatic 222, 3), (2026, .istore 5, 2), (2028, .aload_n 2, 1), (2029, .aload_n 0, 1), (2030, .iload 4, 2), (2032, .iconst 1, 1), (2033, .iadd, 1), (2034, .iaload, 1), (2035, .invokevirtual 224, 3), (2038, .istore 6, 2), (2040, .aload_n 2, 1), (2041, .invokevirtual 123, 3), (2044, .iload 5, 2), (2046, .if_icmp .eq 5, 3), (2049, .iconst 0, 1), (2050, .ireturn, 1), (2051, .iload 5, 2), (2053, .ifCond .ne 15, 3), (2056, .aload_n 3, 1), (2057, .iconst 0, 1), (2058, .laload, 1), (2059, .iload 6, 2), (2061, .i2l, 1), (2062, .lcmp, 1), (2063, .ifCond .eq 5, 3), (2066, .iconst 0, 1), (2067, .ireturn, 1), (2068, .goto 370, 3), (2071, .aload_n 1, 1), (2072, .aload_n 0, 1), (2073, .iload 4, 2), (2075, .iconst 1, 1), (2076, .iadd, 1), (2077, .iaload, 1), (2078, .aload_n 0, 1), (2079, .iload 4, 2), (2081, .iconst 2, 1), (2082, .iadd, 1), (2083, .iaload, 1), (2084, .aload_n 3, 1), (2085, .invokestatic 225, 3), (2088, .istore 5, 2), (2090, .aload_n 2, 1), (2091, .aload_n 0, 1)]
set_option maxRecDepth 100000 in
theorem sa_kv362_20 : ∀ q ∈ sa_k362_20, decode code q.1 = .ok q.2 ∧ sa_ln q.2.1 q.2.2 = true := by decide +kernel
def sa_k362_21 : List (Nat × Instr × Nat) := [(2092, .iload 4, 2), (2094, .iconst 1, 1), (2095, .iadd, 1), (2096, .iaload, 1), (2097, .aload_n 0, 1), (2098, .iload 4, 2), (2100, .iconst 2, 1), (2101, .iadd, 1), (2102, .iaload, 1), (2103, .invokevirtual 227, 3), (2106, .istore 6, 2), (2108, .aload_n 2, 1), (2109, .invokevirtual 123, 3), (2112, .iload 5, 2), (2114, .if_icmp .eq 5, 3), (2117, .iconst 0, 1), (2118, .ireturn, 1), (2119, .iload 5, 2), (2121, .ifCond .ne 15, 3), (2124, .aload_n 3, 1), (2125, .iconst 0, 1), (2126, .laload, 1), (2127, .iload 6, 2), (2129, .i2l, 1), (2130, .lcmp, 1), (2131, .ifCond .eq 5, 3), (2134, .iconst 0, 1), (2135, .ireturn, 1), (2136, .goto 302, 3), (2139, .aload_n 1, 1), (2140, .invokevirtual 228, 3), (2143, .aload_n 2, 1), (2144, .invokevirtual 231, 3), (2147, .if_icmp .eq 291, 3), (2150, .iconst 0, 1), (2151, .ireturn, 1), (2152, .aload_n 1, 1), (2153, .aload_n 0, 1), (2154, .iload 4, 2), (2156, .iconst 1, 1), (2157, .iadd, 1), (2158, .iaload, 1), (2159, .aload_n 3, 1), (2160, .invokestatic 232, 3), (2163, .istore 5, 2), (2165, .aload_n 2, 1), (2166, .aload_n 0, 1), (2167, .iload 4, 2), (2169, .iconst 1, 1), (2170, .iadd, 1), (2171, .iaload, 1), (2172, .invokevirtual 234, 3), (2175, .istore 6, 2), (2177, .aload_n 2, 1), (2178, .invokevirtual 123, 3), (2181, .iload 5, 2), (2183, .if_icmp .eq 5, 3), (2186, .iconst 0, 1), (2187, .ireturn, 1), (2188, .iload 5, 2)]
set_option maxRecDepth 100000 in
theorem sa_kv362_21 : ∀ q ∈ sa_k362_21, decode code q.1 = .ok q.2 ∧ sa_ln q.2.1 q.2.2 = true := by decide +kernel
def sa_k362_22 : List (Nat × Instr × Nat) := [(2190, .ifCond .ne 15, 3), (2193, .aload_n 3, 1), (2194, .iconst 0, 1), (2195, .laload, 1), (2196, .iload 6, 2), (2198, .i2l, 1), (2199, .lcmp, 1), (2200, .ifCond .eq 5, 3), (2203, .iconst 0, 1), (2204, .ireturn, 1), (2205, .goto 233, 3), (2208, .aload_n 1, 1), (2209, .aload_n 0, 1), (2210, .iload 4, 2), (2212, .iconst 1, 1), (2213, .iadd, 1), (2214, .iaload, 1), (2215, .aload_n 3, 1), (2216, .invokestatic 235, 3), (2219, .istore 5, 2), (2221, .aload_n 2, 1), (2222, .aload_n 0, 1), (2223, .iload 4, 2), (2225, .iconst 1, 1), (2226, .iadd, 1), (2227, .iaload, 1), (2228, .invokevirtual 237, 3), (2231, .istore 6, 2), (2233, .aload_n 2, 1), (2234, .invokevirtual 123, 3), (2237, .iload 5, 2), (2239, .if_icmp .eq 5, 3), (2242, .iconst 0, 1), (2243, .ireturn, 1), (2244, .iload 5, 2), (2246, .ifCond .ne 15, 3), (2249, .aload_n 3, 1), (2250, .iconst 0, 1), (2251, .laload, 1), (2252, .iload 6, 2), (2254, .i2l, 1), (2255, .lcmp, 1), (2256, .ifCond .eq 5, 3), (2259, .iconst 0, 1), (2260, .ireturn, 1), (2261, .goto 177, 3), (2264, .aload_n 1, 1), (2265, .aload_n 0, 1), (2266, .iload 4, 2), (2268, .iconst 1, 1), (2269, .iadd, 1), (2270, .iaload, 1), (2271, .aload_n 0, 1), (2272, .iload 4, 2), (2274, .iconst 2, 1), (2275, .iadd, 1), (2276, .iaload, 1), (2277, .aload_n 3, 1), (2278, .invokestatic 238, 3), (2281, .istore 5, 2)]
set_option maxRecDepth 100000 in
theorem sa_kv362_22 : ∀ q ∈ sa_k362_22, decode code q.1 = .ok q.2 ∧ sa_ln q.2.1 q.2.2 = true := by decide +kernel
def sa_k362_23 : List (Nat × Instr × Nat) := [(2283, .aload_n 2, 1), (2284, .aload_n 0, 1), (2285, .iload 4, 2), (2287, .iconst 1, 1), (2288, .iadd, 1), (2289, .iaload, 1), (2290, .aload_n 0, 1), (2291, .iload 4, 2), (2293, .iconst 2, 1), (2294, .iadd, 1), (2295, .iaload, 1), (2296, .invokevirtual 240, 3), (2299, .istore 6, 2), (2301, .aload_n 2, 1), (2302, .invokevirtual 123, 3), (2305, .iload 5, 2), (2307, .if_icmp .eq 5, 3), (2310, .iconst 0, 1), (2311, .ireturn, 1), (2312, .iload 5, 2), (2314, .ifCond .ne 15, 3), (2317, .aload_n 3, 1), (2318, .iconst 0, 1), (2319, .laload, 1), (2320, .iload 6, 2), (2322, .i2l, 1), (2323, .lcmp, 1), (2324, .ifCond .eq 5, 3), (2327, .iconst 0, 1), (2328, .ireturn, 1), (2329, .goto 109, 3), (2332, .aload_n 1, 1), (2333, .aload_n 0, 1), (2334, .iload 4, 2), (2336, .iconst 1, 1), (2337, .iadd, 1), (2338, .iaload, 1), (2339, .aload_n 3, 1), (2340, .invokestatic 241, 3), (2343, .istore 5, 2), (2345, .aload_n 2, 1), (2346, .aload_n 0, 1), (2347, .iload 4, 2), (2349, .iconst 1, 1), (2350, .iadd, 1), (2351, .iaload, 1), (2352, .invokevirtual 243, 3), (2355, .istore 6, 2), (2357, .aload_n 2, 1), (2358, .invokevirtual 123, 3), (2361, .iload 5, 2), (2363, .if_icmp .eq 5, 3), (2366, .iconst 0, 1), (2367, .ireturn, 1), (2368, .iload 5, 2), (2370, .ifCond .ne 15, 3), (2373, .aload_n 3, 1), (2374, .iconst 0, 1), (2375, .laload, 1), (2376, .iload 6, 2)]
set_option maxRecDepth 100000 in
theorem sa_kv362_23 : ∀ q ∈ sa_k362_23, decode code q.1 = .ok q.2 ∧ sa_ln q.2.1 q.2.2 = true := by decide +kernel
def sa_k362_24 : List (Nat × Instr × Nat) := [(2378, .i2l, 1), (2379, .lcmp, 1), (2380, .ifCond .eq 5, 3), (2383, .iconst 0, 1), (2384, .ireturn, 1), (2385, .goto 53, 3), (2388, .aload_n 1, 1), (2389, .invokevirtual 244, 3), (2392, .aload_n 2, 1), (2393, .invokevirtual 247, 3), (2396, .if_icmp .eq 42, 3), (2399, .iconst 0, 1), (2400, .ireturn, 1), (2401, .aload_n 1, 1), (2402, .invokevirtual 248, 3), (2405, .aload_n 2, 1), (2406, .invokevirtual 251, 3), (2409, .if_icmp .eq 29, 3), (2412, .iconst 0, 1), (2413, .ireturn, 1), (2414, .aload_n 1, 1), (2415, .invokevirtual 252, 3), (2418, .aload_n 2, 1), (2419, .invokevirtual 255, 3), (2422, .goto 16, 3), (2425, .aload_n 1, 1), (2426, .invokevirtual 256, 3), (2429, .aload_n 2, 1), (2430, .invokevirtual 260, 3), (2433, .if_icmp .eq 5, 3), (2436, .iconst 0, 1), (2437, .ireturn, 1), (2438, .iinc 4 6, 3), (2441, .goto (-2418), 3), (2444, .iconst 1, 1), (2445, .ireturn, 1)]
set_option maxRecDepth 100000 in
theorem sa_kv362_24 : ∀ q ∈ sa_k362_24, decode code q.1 = .ok q.2 ∧ sa_ln q.2.1 q.2.2 = true := by decide +kernel
def sa_k362 : List (Nat × Instr × Nat) := sa_k362_0 ++ (sa_k362_1 ++ (sa_k362_2 ++ (sa_k362_3 ++ (sa_k362_4 ++ (sa_k362_5 ++ (sa_k362_6 ++ (sa_k362_7 ++ (sa_k362_8 ++ (sa_k362_9 ++ (sa_k362_10 ++ (sa_k362_11 ++ (sa_k362_12 ++ (sa_k362_13 ++ (sa_k362_14 ++ (sa_k362_15 ++ (sa_k362_16 ++ (sa_k362_17 ++ (sa_k362_18 ++ (sa_k362_19 ++ (sa_k362_20 ++ (sa_k362_21 ++ (sa_k362_22 ++ (sa_k362_23 ++ (sa_k362_24))))))))))))))))))))))))
theorem sa_kv362 : ∀ q ∈ sa_k362, decode code q.1 = .ok q.2 ∧ sa_ln q.2.1 q.2.2 = true := List.forall_mem_append.mpr ⟨sa_kv362_0, List.forall_mem_append.mpr ⟨sa_kv362_1, List.forall_mem_append.mpr ⟨sa_kv362_2, List.forall_mem_append.mpr ⟨sa_kv362_3, List.forall_mem_append.mpr ⟨sa_kv362_4, List.forall_mem_append.mpr ⟨sa_kv362_5, List.forall_mem_append.mpr ⟨sa_kv362_6, List.forall_mem_append.mpr ⟨sa_kv362_7, List.forall_mem_append.mpr ⟨sa_kv362_8, List.forall_mem_append.mpr ⟨sa_kv362_9, List.forall_mem_append.mpr ⟨sa_kv362_10, List.forall_mem_append.mpr ⟨sa_kv362_11, List.forall_mem_append.mpr ⟨sa_kv362_12, List.forall_mem_append.mpr ⟨sa_kv362_13, List.forall_mem_append.mpr ⟨sa_kv362_14, List.forall_mem_append.mpr ⟨sa_kv362_15, List.forall_mem_append.mpr ⟨sa_kv362_16, List.forall_mem_append.mpr ⟨sa_kv362_17, List.forall_mem_append.mpr ⟨sa_kv362_18, List.forall_mem_append.mpr ⟨sa_kv362_19, List.forall_mem_append.mpr ⟨sa_kv362_20, List.forall_mem_append.mpr ⟨sa_kv362_21, List.forall_mem_append.mpr ⟨sa_kv362_22, List.forall_mem_append.mpr ⟨sa_kv362_23, sa_kv362_24⟩⟩⟩⟩⟩⟩⟩⟩⟩⟩⟩⟩⟩⟩⟩⟩⟩⟩⟩⟩⟩⟩⟩⟩
end
section
/-! the program as data: methods (class, name, bytes, locals, return type, handlers, decoded code), links -/
abbrev sa_Me : Type := Nat × MethodName × ByteArray × Nat × Option FieldType × Option (List (Nat × Nat × Nat × Nat)) × List (Nat × Instr × Nat)
def sa_M0 : List sa_Me := [(0, yX0_init, cX0_init, 3, none, none, sa_k0),
  (0, yX0_stolenIn, cX0_stolenIn, 2, (some .int), none, sa_k1),
  (0, yX0_whenStolen, cX0_whenStolen, 3, (some .int), none, sa_k2),
  (0, yX0_bestGuard, cX0_bestGuard, 6, (some .int), none, sa_k3),
  (0, yX0_keptWith, cX0_keptWith, 3, (some .int), none, sa_k4),
  (0, yX0_passDays, cX0_passDays, 3, none, none, sa_k5),
  (0, yX0_letSpidersGo, cX0_letSpidersGo, 7, (some .int), none, sa_k6),
  (0, yX0_letSpiderGo, cX0_letSpiderGo, 4, none, none, sa_k7),
  (0, yX0_draw, cX0_draw, 2, (some .int), none, sa_k8),
  (1, yX1_init, cX1_init, 4, none, none, sa_k9),
  (1, yX1_solve, cX1_solve, 4, (some .int), none, sa_k10),
  (1, yX1_creatureOf, cX1_creatureOf, 4, (some .int), none, sa_k11),
  (1, yX1_helpOf, cX1_helpOf, 4, (some .int), none, sa_k12),
  (1, yX1_chooseFirst, cX1_chooseFirst, 8, none, none, sa_k13),
  (2, yX2_init, cX2_init, 3, none, none, sa_k14),
  (2, yX2_read, cX2_read, 3, (some .int), none, sa_k15),
  (2, yX2_faultPlace, cX2_faultPlace, 1, (some .int), none, sa_k16),
  (2, yX2_refuse, cX2_refuse, 2, none, none, sa_k17),
  (2, yX2_readRow, cX2_readRow, 3, none, none, sa_k18),
  (2, yX2_readCoins, cX2_readCoins, 1, none, none, sa_k19),
  (2, yX2_readRival, cX2_readRival, 1, none, none, sa_k20),
  (2, yX2_readBound, cX2_readBound, 1, none, none, sa_k21),
  (2, yX2_readNumber, cX2_readNumber, 4, (some .int), none, sa_k22),
  (2, yX2_expect, cX2_expect, 2, none, none, sa_k23),
  (2, yX2_readOr, cX2_readOr, 3, none, none, sa_k24),
  (2, yX2_canBeginExpression, cX2_canBeginExpression, 1, (some .boolean), none, sa_k25),
  (2, yX2_readAnd, cX2_readAnd, 3, none, none, sa_k26),
  (2, yX2_readNot, cX2_readNot, 4, none, none, sa_k27),
  (2, yX2_readTest, cX2_readTest, 3, none, none, sa_k28),
  (2, yX2_readSum, cX2_readSum, 4, none, none, sa_k29),
  (2, yX2_readProduct, cX2_readProduct, 4, none, none, sa_k30),
  (2, yX2_readPart, cX2_readPart, 2, none, none, sa_k31),
  (3, yX3_init, cX3_init, 3, none, none, sa_k32),
  (3, yX3_solve, cX3_solve, 6, none, none, sa_k33),
  (3, yX3_many, cX3_many, 1, (some .int), none, sa_k34),
  (3, yX3_firstRow, cX3_firstRow, 5, (some .int), none, sa_k35),
  (3, yX3_tellingStep, cX3_tellingStep, 4, (some .int), none, sa_k36),
  (3, yX3_unlikeBehind, cX3_unlikeBehind, 4, (some .int), none, sa_k37),
  (3, yX3_behindTry, cX3_behindTry, 3, (some .int), none, sa_k38),
  (3, yX3_behind, cX3_behind, 7, (some .long), none, sa_k39)]
theorem sa_Mv0 : ∀ e ∈ sa_M0, ∀ q ∈ e.2.2.2.2.2.2, decode e.2.2.1 q.1 = .ok q.2 ∧ sa_ln q.2.1 q.2.2 = true := List.forall_mem_cons.mpr ⟨sa_kv0, List.forall_mem_cons.mpr ⟨sa_kv1, List.forall_mem_cons.mpr ⟨sa_kv2, List.forall_mem_cons.mpr ⟨sa_kv3, List.forall_mem_cons.mpr ⟨sa_kv4, List.forall_mem_cons.mpr ⟨sa_kv5, List.forall_mem_cons.mpr ⟨sa_kv6, List.forall_mem_cons.mpr ⟨sa_kv7, List.forall_mem_cons.mpr ⟨sa_kv8, List.forall_mem_cons.mpr ⟨sa_kv9, List.forall_mem_cons.mpr ⟨sa_kv10, List.forall_mem_cons.mpr ⟨sa_kv11, List.forall_mem_cons.mpr ⟨sa_kv12, List.forall_mem_cons.mpr ⟨sa_kv13, List.forall_mem_cons.mpr ⟨sa_kv14, List.forall_mem_cons.mpr ⟨sa_kv15, List.forall_mem_cons.mpr ⟨sa_kv16, List.forall_mem_cons.mpr ⟨sa_kv17, List.forall_mem_cons.mpr ⟨sa_kv18, List.forall_mem_cons.mpr ⟨sa_kv19, List.forall_mem_cons.mpr ⟨sa_kv20, List.forall_mem_cons.mpr ⟨sa_kv21, List.forall_mem_cons.mpr ⟨sa_kv22, List.forall_mem_cons.mpr ⟨sa_kv23, List.forall_mem_cons.mpr ⟨sa_kv24, List.forall_mem_cons.mpr ⟨sa_kv25, List.forall_mem_cons.mpr ⟨sa_kv26, List.forall_mem_cons.mpr ⟨sa_kv27, List.forall_mem_cons.mpr ⟨sa_kv28, List.forall_mem_cons.mpr ⟨sa_kv29, List.forall_mem_cons.mpr ⟨sa_kv30, List.forall_mem_cons.mpr ⟨sa_kv31, List.forall_mem_cons.mpr ⟨sa_kv32, List.forall_mem_cons.mpr ⟨sa_kv33, List.forall_mem_cons.mpr ⟨sa_kv34, List.forall_mem_cons.mpr ⟨sa_kv35, List.forall_mem_cons.mpr ⟨sa_kv36, List.forall_mem_cons.mpr ⟨sa_kv37, List.forall_mem_cons.mpr ⟨sa_kv38, List.forall_mem_cons.mpr ⟨sa_kv39, fun _ h => absurd h List.not_mem_nil⟩⟩⟩⟩⟩⟩⟩⟩⟩⟩⟩⟩⟩⟩⟩⟩⟩⟩⟩⟩⟩⟩⟩⟩⟩⟩⟩⟩⟩⟩⟩⟩⟩⟩⟩⟩⟩⟩⟩⟩
def sa_M1 : List sa_Me := [(3, yX3_waysFrom, cX3_waysFrom, 5, (some .int), none, sa_k40),
  (3, yX3_firstTrick, cX3_firstTrick, 4, (some .int), none, sa_k41),
  (4, yX4_init, cX4_init, 1, none, none, sa_k42),
  (4, yX4_isEmpty, cX4_isEmpty, 1, (some .boolean), none, sa_k43),
  (4, yX4_clear, cX4_clear, 1, none, none, sa_k44),
  (4, yX4_add, cX4_add, 2, none, none, sa_k45),
  (4, yX4_copyFrom, cX4_copyFrom, 2, none, none, sa_k46),
  (4, yX4_worth, cX4_worth, 12, (some .int), none, sa_k47),
  (5, yX5_init, cX5_init, 2, none, none, sa_k48),
  (5, yX5_startAt, cX5_startAt, 4, none, none, sa_k49),
  (5, yX5_spread, cX5_spread, 2, none, none, sa_k50),
  (5, yX5_fewestTries, cX5_fewestTries, 3, (some .int), none, sa_k51),
  (5, yX5_trickOf, cX5_trickOf, 5, (some .int), none, sa_k52),
  (5, yX5_reached, cX5_reached, 1, (some .long), none, sa_k53),
  (5, yX5_worked, cX5_worked, 1, (some .int), none, sa_k54),
  (5, yX5_begin, cX5_begin, 1, none, none, sa_k55),
  (5, yX5_visit, cX5_visit, 4, none, none, sa_k56),
  (5, yX5_goOnFrom, cX5_goOnFrom, 7, none, none, sa_k57),
  (5, yX5_isBound, cX5_isBound, 6, (some .boolean), none, sa_k58),
  (5, yX5_leastCost, cX5_leastCost, 5, (some .int), none, sa_k59),
  (5, yX5_cheapestOpen, cX5_cheapestOpen, 5, (some .int), none, sa_k60),
  (5, yX5_payFrom, cX5_payFrom, 10, (some .int), none, sa_k61),
  (5, yX5_improve, cX5_improve, 7, none, none, sa_k62),
  (6, yX6_init, cX6_init, 1, none, none, sa_k63),
  (6, yX6_clear, cX6_clear, 1, none, none, sa_k64),
  (6, yX6_copyFrom, cX6_copyFrom, 2, none, none, sa_k65),
  (6, yX6_startCoins, cX6_startCoins, 1, (some .int), none, sa_k66),
  (6, yX6_setCoins, cX6_setCoins, 2, none, none, sa_k67),
  (6, yX6_setRival, cX6_setRival, 2, none, none, sa_k68),
  (6, yX6_rivalComes, cX6_rivalComes, 2, (some .boolean), none, sa_k69),
  (6, yX6_works, cX6_works, 3, (some .boolean), none, sa_k70),
  (6, yX6_keys, cX6_keys, 4, (some .int), none, sa_k71),
  (6, yX6_beliefsBehind, cX6_beliefsBehind, 3, (some .int), none, sa_k72),
  (6, yX6_cordBehind, cX6_cordBehind, 5, (some .int), none, sa_k73),
  (6, yX6_binds, cX6_binds, 8, (some .boolean), none, sa_k74),
  (6, yX6_priceOf, cX6_priceOf, 4, (some .int), none, sa_k75),
  (6, yX6_greatestStrength, cX6_greatestStrength, 4, (some .int), none, sa_k76),
  (6, yX6_payersOf, cX6_payersOf, 6, (some .int), none, sa_k77),
  (6, yX6_priceForFew, cX6_priceForFew, 6, (some .int), none, sa_k78),
  (6, yX6_richest, cX6_richest, 5, (some .int), none, sa_k79)]
theorem sa_Mv1 : ∀ e ∈ sa_M1, ∀ q ∈ e.2.2.2.2.2.2, decode e.2.2.1 q.1 = .ok q.2 ∧ sa_ln q.2.1 q.2.2 = true := List.forall_mem_cons.mpr ⟨sa_kv40, List.forall_mem_cons.mpr ⟨sa_kv41, List.forall_mem_cons.mpr ⟨sa_kv42, List.forall_mem_cons.mpr ⟨sa_kv43, List.forall_mem_cons.mpr ⟨sa_kv44, List.forall_mem_cons.mpr ⟨sa_kv45, List.forall_mem_cons.mpr ⟨sa_kv46, List.forall_mem_cons.mpr ⟨sa_kv47, List.forall_mem_cons.mpr ⟨sa_kv48, List.forall_mem_cons.mpr ⟨sa_kv49, List.forall_mem_cons.mpr ⟨sa_kv50, List.forall_mem_cons.mpr ⟨sa_kv51, List.forall_mem_cons.mpr ⟨sa_kv52, List.forall_mem_cons.mpr ⟨sa_kv53, List.forall_mem_cons.mpr ⟨sa_kv54, List.forall_mem_cons.mpr ⟨sa_kv55, List.forall_mem_cons.mpr ⟨sa_kv56, List.forall_mem_cons.mpr ⟨sa_kv57, List.forall_mem_cons.mpr ⟨sa_kv58, List.forall_mem_cons.mpr ⟨sa_kv59, List.forall_mem_cons.mpr ⟨sa_kv60, List.forall_mem_cons.mpr ⟨sa_kv61, List.forall_mem_cons.mpr ⟨sa_kv62, List.forall_mem_cons.mpr ⟨sa_kv63, List.forall_mem_cons.mpr ⟨sa_kv64, List.forall_mem_cons.mpr ⟨sa_kv65, List.forall_mem_cons.mpr ⟨sa_kv66, List.forall_mem_cons.mpr ⟨sa_kv67, List.forall_mem_cons.mpr ⟨sa_kv68, List.forall_mem_cons.mpr ⟨sa_kv69, List.forall_mem_cons.mpr ⟨sa_kv70, List.forall_mem_cons.mpr ⟨sa_kv71, List.forall_mem_cons.mpr ⟨sa_kv72, List.forall_mem_cons.mpr ⟨sa_kv73, List.forall_mem_cons.mpr ⟨sa_kv74, List.forall_mem_cons.mpr ⟨sa_kv75, List.forall_mem_cons.mpr ⟨sa_kv76, List.forall_mem_cons.mpr ⟨sa_kv77, List.forall_mem_cons.mpr ⟨sa_kv78, List.forall_mem_cons.mpr ⟨sa_kv79, fun _ h => absurd h List.not_mem_nil⟩⟩⟩⟩⟩⟩⟩⟩⟩⟩⟩⟩⟩⟩⟩⟩⟩⟩⟩⟩⟩⟩⟩⟩⟩⟩⟩⟩⟩⟩⟩⟩⟩⟩⟩⟩⟩⟩⟩⟩
def sa_M2 : List sa_Me := [(6, yX6_manyResting, cX6_manyResting, 6, (some .int), none, sa_k80),
  (6, yX6_firstResting, cX6_firstResting, 5, (some .int), none, sa_k81),
  (6, yX6_rests, cX6_rests, 6, (some .boolean), none, sa_k82),
  (6, yX6_gain, cX6_gain, 10, (some .int), none, sa_k83),
  (6, yX6_fewestTales, cX6_fewestTales, 5, (some .int), none, sa_k84),
  (6, yX6_partsOf, cX6_partsOf, 4, (some .int), none, sa_k85),
  (6, yX6_sharedParts, cX6_sharedParts, 3, (some .int), none, sa_k86),
  (6, yX6_lender, cX6_lender, 6, (some .int), none, sa_k87),
  (6, yX6_partsAlone, cX6_partsAlone, 2, (some .int), none, sa_k88),
  (6, yX6_likeCouples, cX6_likeCouples, 4, (some .int), none, sa_k89),
  (7, yX7_init, cX7_init, 2, none, none, sa_k90),
  (7, yX7_begin, cX7_begin, 2, none, none, sa_k91),
  (7, yX7_copyFrom, cX7_copyFrom, 2, none, none, sa_k92),
  (7, yX7_coins, cX7_coins, 1, (some .int), none, sa_k93),
  (7, yX7_setCoins, cX7_setCoins, 2, none, none, sa_k94),
  (7, yX7_dayNow, cX7_dayNow, 1, (some .int), none, sa_k95),
  (7, yX7_guarded, cX7_guarded, 1, (some .int), none, sa_k96),
  (7, yX7_setGuarded, cX7_setGuarded, 2, none, none, sa_k97),
  (7, yX7_beliefs, cX7_beliefs, 2, (some .int), none, sa_k98),
  (7, yX7_setBeliefs, cX7_setBeliefs, 3, none, none, sa_k99),
  (7, yX7_wary, cX7_wary, 2, (some .int), none, sa_k100),
  (7, yX7_cordOn, cX7_cordOn, 2, (some .int), none, sa_k101),
  (7, yX7_fate, cX7_fate, 2, (some .int), none, sa_k102),
  (7, yX7_setCord, cX7_setCord, 3, none, none, sa_k103),
  (7, yX7_setFate, cX7_setFate, 3, none, none, sa_k104),
  (7, yX7_bitsOf, cX7_bitsOf, 4, (some .int), none, sa_k105),
  (7, yX7_helpThere, cX7_helpThere, 3, (some .int), none, sa_k106),
  (7, yX7_mayTry, cX7_mayTry, 3, (some .boolean), none, sa_k107),
  (7, yX7_tryTrick, cX7_tryTrick, 4, (some .int), none, sa_k108),
  (7, yX7_passDay, cX7_passDay, 2, none, none, sa_k109),
  (7, yX7_stealIfRivalComes, cX7_stealIfRivalComes, 3, none, none, sa_k110),
  (8, yX8_init, cX8_init, 3, none, none, sa_k111),
  (8, yX8_size, cX8_size, 1, (some .int), none, sa_k112),
  (8, yX8_width, cX8_width, 1, (some .int), none, sa_k113),
  (8, yX8_limit, cX8_limit, 2, (some .int), none, sa_k114),
  (8, yX8_isFull, cX8_isFull, 1, (some .boolean), none, sa_k115),
  (8, yX8_has, cX8_has, 2, (some .boolean), none, sa_k116),
  (8, yX8_all, cX8_all, 1, (some .int), none, sa_k117),
  (8, yX8_get, cX8_get, 3, (some .int), none, sa_k118),
  (8, yX8_clear, cX8_clear, 1, none, none, sa_k119)]
theorem sa_Mv2 : ∀ e ∈ sa_M2, ∀ q ∈ e.2.2.2.2.2.2, decode e.2.2.1 q.1 = .ok q.2 ∧ sa_ln q.2.1 q.2.2 = true := List.forall_mem_cons.mpr ⟨sa_kv80, List.forall_mem_cons.mpr ⟨sa_kv81, List.forall_mem_cons.mpr ⟨sa_kv82, List.forall_mem_cons.mpr ⟨sa_kv83, List.forall_mem_cons.mpr ⟨sa_kv84, List.forall_mem_cons.mpr ⟨sa_kv85, List.forall_mem_cons.mpr ⟨sa_kv86, List.forall_mem_cons.mpr ⟨sa_kv87, List.forall_mem_cons.mpr ⟨sa_kv88, List.forall_mem_cons.mpr ⟨sa_kv89, List.forall_mem_cons.mpr ⟨sa_kv90, List.forall_mem_cons.mpr ⟨sa_kv91, List.forall_mem_cons.mpr ⟨sa_kv92, List.forall_mem_cons.mpr ⟨sa_kv93, List.forall_mem_cons.mpr ⟨sa_kv94, List.forall_mem_cons.mpr ⟨sa_kv95, List.forall_mem_cons.mpr ⟨sa_kv96, List.forall_mem_cons.mpr ⟨sa_kv97, List.forall_mem_cons.mpr ⟨sa_kv98, List.forall_mem_cons.mpr ⟨sa_kv99, List.forall_mem_cons.mpr ⟨sa_kv100, List.forall_mem_cons.mpr ⟨sa_kv101, List.forall_mem_cons.mpr ⟨sa_kv102, List.forall_mem_cons.mpr ⟨sa_kv103, List.forall_mem_cons.mpr ⟨sa_kv104, List.forall_mem_cons.mpr ⟨sa_kv105, List.forall_mem_cons.mpr ⟨sa_kv106, List.forall_mem_cons.mpr ⟨sa_kv107, List.forall_mem_cons.mpr ⟨sa_kv108, List.forall_mem_cons.mpr ⟨sa_kv109, List.forall_mem_cons.mpr ⟨sa_kv110, List.forall_mem_cons.mpr ⟨sa_kv111, List.forall_mem_cons.mpr ⟨sa_kv112, List.forall_mem_cons.mpr ⟨sa_kv113, List.forall_mem_cons.mpr ⟨sa_kv114, List.forall_mem_cons.mpr ⟨sa_kv115, List.forall_mem_cons.mpr ⟨sa_kv116, List.forall_mem_cons.mpr ⟨sa_kv117, List.forall_mem_cons.mpr ⟨sa_kv118, List.forall_mem_cons.mpr ⟨sa_kv119, fun _ h => absurd h List.not_mem_nil⟩⟩⟩⟩⟩⟩⟩⟩⟩⟩⟩⟩⟩⟩⟩⟩⟩⟩⟩⟩⟩⟩⟩⟩⟩⟩⟩⟩⟩⟩⟩⟩⟩⟩⟩⟩⟩⟩⟩⟩
def sa_M3 : List sa_Me := [(8, yX8_put, cX8_put, 3, none, none, sa_k120),
  (8, yX8_endRow, cX8_endRow, 1, none, none, sa_k121),
  (8, yX8_copyFrom, cX8_copyFrom, 2, none, none, sa_k122),
  (9, yX9_init, cX9_init, 2, none, none, sa_k123),
  (9, yX9_open, cX9_open, 2, none, none, sa_k124),
  (9, yX9_kind, cX9_kind, 1, (some .int), none, sa_k125),
  (9, yX9_start, cX9_start, 1, (some .int), none, sa_k126),
  (9, yX9_value, cX9_value, 1, (some .int), none, sa_k127),
  (9, yX9_isWord, cX9_isWord, 1, (some .boolean), none, sa_k128),
  (9, yX9_isValue, cX9_isValue, 1, (some .boolean), none, sa_k129),
  (9, yX9_hasTooManyDigits, cX9_hasTooManyDigits, 1, (some .boolean), none, sa_k130),
  (9, yX9_step, cX9_step, 1, none, none, sa_k131),
  (9, yX9_readNumber, cX9_readNumber, 1, none, none, sa_k132),
  (9, yX9_readWord, cX9_readWord, 1, none, none, sa_k133),
  (9, yX9_spells, cX9_spells, 3, (some .boolean), none, sa_k134),
  (9, yX9_isBlank, cX9_isBlank, 1, (some .boolean), none, sa_k135),
  (9, yX9_isDigit, cX9_isDigit, 1, (some .boolean), none, sa_k136),
  (9, yX9_isLetter, cX9_isLetter, 1, (some .boolean), none, sa_k137),
  (9, yX9_isSign, cX9_isSign, 1, (some .boolean), none, sa_k138),
  (10, yX10_init, cX10_init, 2, none, none, sa_k139),
  (10, yX10_begin, cX10_begin, 1, none, none, sa_k140),
  (10, yX10_copyFrom, cX10_copyFrom, 2, none, none, sa_k141),
  (10, yX10_acts, cX10_acts, 1, (some .int), none, sa_k142),
  (10, yX10_remember, cX10_remember, 2, none, none, sa_k143),
  (10, yX10_takeBack, cX10_takeBack, 2, (some .boolean), none, sa_k144),
  (10, yX10_marks, cX10_marks, 1, (some .int), none, sa_k145),
  (10, yX10_addMark, cX10_addMark, 5, none, none, sa_k146),
  (10, yX10_dropMarks, cX10_dropMarks, 1, none, none, sa_k147),
  (10, yX10_markedBeliefs, cX10_markedBeliefs, 7, (some .int), none, sa_k148),
  (11, yX11_init, cX11_init, 1, none, none, sa_k149),
  (11, yX11_feed, cX11_feed, 6, (some .int), none, sa_k150),
  (11, yX11_putBytes, cX11_putBytes, 3, none, none, sa_k151),
  (11, yX11_sky, cX11_sky, 3, (some .int), none, sa_k152),
  (11, yX11_fault, cX11_fault, 1, (some .int), none, sa_k153),
  (11, yX11_count, cX11_count, 2, (some .int), none, sa_k154),
  (11, yX11_creature, cX11_creature, 3, (some .int), none, sa_k155),
  (11, yX11_trick, cX11_trick, 3, (some .int), none, sa_k156),
  (11, yX11_attempt, cX11_attempt, 3, (some .int), none, sa_k157),
  (11, yX11_days, cX11_days, 3, (some .int), none, sa_k158),
  (11, yX11_guard, cX11_guard, 2, (some .boolean), none, sa_k159)]
theorem sa_Mv3 : ∀ e ∈ sa_M3, ∀ q ∈ e.2.2.2.2.2.2, decode e.2.2.1 q.1 = .ok q.2 ∧ sa_ln q.2.1 q.2.2 = true := List.forall_mem_cons.mpr ⟨sa_kv120, List.forall_mem_cons.mpr ⟨sa_kv121, List.forall_mem_cons.mpr ⟨sa_kv122, List.forall_mem_cons.mpr ⟨sa_kv123, List.forall_mem_cons.mpr ⟨sa_kv124, List.forall_mem_cons.mpr ⟨sa_kv125, List.forall_mem_cons.mpr ⟨sa_kv126, List.forall_mem_cons.mpr ⟨sa_kv127, List.forall_mem_cons.mpr ⟨sa_kv128, List.forall_mem_cons.mpr ⟨sa_kv129, List.forall_mem_cons.mpr ⟨sa_kv130, List.forall_mem_cons.mpr ⟨sa_kv131, List.forall_mem_cons.mpr ⟨sa_kv132, List.forall_mem_cons.mpr ⟨sa_kv133, List.forall_mem_cons.mpr ⟨sa_kv134, List.forall_mem_cons.mpr ⟨sa_kv135, List.forall_mem_cons.mpr ⟨sa_kv136, List.forall_mem_cons.mpr ⟨sa_kv137, List.forall_mem_cons.mpr ⟨sa_kv138, List.forall_mem_cons.mpr ⟨sa_kv139, List.forall_mem_cons.mpr ⟨sa_kv140, List.forall_mem_cons.mpr ⟨sa_kv141, List.forall_mem_cons.mpr ⟨sa_kv142, List.forall_mem_cons.mpr ⟨sa_kv143, List.forall_mem_cons.mpr ⟨sa_kv144, List.forall_mem_cons.mpr ⟨sa_kv145, List.forall_mem_cons.mpr ⟨sa_kv146, List.forall_mem_cons.mpr ⟨sa_kv147, List.forall_mem_cons.mpr ⟨sa_kv148, List.forall_mem_cons.mpr ⟨sa_kv149, List.forall_mem_cons.mpr ⟨sa_kv150, List.forall_mem_cons.mpr ⟨sa_kv151, List.forall_mem_cons.mpr ⟨sa_kv152, List.forall_mem_cons.mpr ⟨sa_kv153, List.forall_mem_cons.mpr ⟨sa_kv154, List.forall_mem_cons.mpr ⟨sa_kv155, List.forall_mem_cons.mpr ⟨sa_kv156, List.forall_mem_cons.mpr ⟨sa_kv157, List.forall_mem_cons.mpr ⟨sa_kv158, List.forall_mem_cons.mpr ⟨sa_kv159, fun _ h => absurd h List.not_mem_nil⟩⟩⟩⟩⟩⟩⟩⟩⟩⟩⟩⟩⟩⟩⟩⟩⟩⟩⟩⟩⟩⟩⟩⟩⟩⟩⟩⟩⟩⟩⟩⟩⟩⟩⟩⟩⟩⟩⟩⟩
def sa_M4 : List sa_Me := [(11, yX11_give, cX11_give, 2, (some .int), none, sa_k160),
  (11, yX11_tell, cX11_tell, 6, (some .int), none, sa_k161),
  (11, yX11_undo, cX11_undo, 1, (some .int), none, sa_k162),
  (11, yX11_plan, cX11_plan, 4, (some .int), none, sa_k163),
  (11, yX11_cheapest, cX11_cheapest, 2, (some .int), none, sa_k164),
  (11, yX11_canBelieve, cX11_canBelieve, 4, (some .boolean), none, sa_k165),
  (11, yX11_order, cX11_order, 4, (some .int), none, sa_k166),
  (11, yX11_stolen, cX11_stolen, 2, (some .int), none, sa_k167),
  (11, yX11_cord, cX11_cord, 4, (some .int), none, sa_k168),
  (11, yX11_when, cX11_when, 2, (some .int), none, sa_k169),
  (11, yX11_toGuard, cX11_toGuard, 2, (some .int), none, sa_k170),
  (11, yX11_payers, cX11_payers, 3, (some .int), none, sa_k171),
  (11, yX11_few, cX11_few, 3, (some .int), none, sa_k172),
  (11, yX11_tellers, cX11_tellers, 1, (some .int), none, sa_k173),
  (11, yX11_borrowed, cX11_borrowed, 4, (some .int), none, sa_k174),
  (11, yX11_mark, cX11_mark, 5, (some .int), none, sa_k175),
  (11, yX11_forget, cX11_forget, 1, none, none, sa_k176),
  (11, yX11_how, cX11_how, 4, (some .int), none, sa_k177),
  (11, yX11_next, cX11_next, 5, (some .int), none, sa_k178),
  (11, yX11_game, cX11_game, 5, (some .int), none, sa_k179),
  (11, yX11_spiders, cX11_spiders, 4, (some .int), none, sa_k180),
  (11, yX11_fooled, cX11_fooled, 4, (some .int), none, sa_k181),
  (11, yX11_lacking, cX11_lacking, 6, (some .int), none, sa_k182),
  (11, yX11_useless, cX11_useless, 3, (some .int), none, sa_k183),
  (11, yX11_firm, cX11_firm, 4, (some .int), none, sa_k184),
  (11, yX11_loot, cX11_loot, 2, (some .int), none, sa_k185),
  (11, yX11_offer, cX11_offer, 4, (some .int), none, sa_k186),
  (11, yX11_alone, cX11_alone, 2, (some .int), none, sa_k187),
  (11, yX11_like, cX11_like, 1, (some .int), none, sa_k188),
  (11, yX11_nearest, cX11_nearest, 5, (some .int), none, sa_k189),
  (11, yX11_image, cX11_image, 1, none, none, sa_k190),
  (11, yX11_restore, cX11_restore, 1, (some .boolean), none, sa_k191),
  (11, yX11_isFree, cX11_isFree, 2, (some .boolean), none, sa_k192),
  (11, yX11_refuseAct, cX11_refuseAct, 1, (some .int), none, sa_k193),
  (11, yX11_fewestNow, cX11_fewestNow, 2, (some .int), none, sa_k194),
  (11, yX11_spreadFrom, cX11_spreadFrom, 2, none, none, sa_k195),
  (11, yX11_isBeliefSet, cX11_isBeliefSet, 1, (some .boolean), none, sa_k196),
  (11, yX11_setsWith, cX11_setsWith, 5, (some .long), none, sa_k197),
  (11, yX11_checkCreature, cX11_checkCreature, 2, none, none, sa_k198),
  (11, yX11_checkTrick, cX11_checkTrick, 2, none, none, sa_k199)]
theorem sa_Mv4 : ∀ e ∈ sa_M4, ∀ q ∈ e.2.2.2.2.2.2, decode e.2.2.1 q.1 = .ok q.2 ∧ sa_ln q.2.1 q.2.2 = true := List.forall_mem_cons.mpr ⟨sa_kv160, List.forall_mem_cons.mpr ⟨sa_kv161, List.forall_mem_cons.mpr ⟨sa_kv162, List.forall_mem_cons.mpr ⟨sa_kv163, List.forall_mem_cons.mpr ⟨sa_kv164, List.forall_mem_cons.mpr ⟨sa_kv165, List.forall_mem_cons.mpr ⟨sa_kv166, List.forall_mem_cons.mpr ⟨sa_kv167, List.forall_mem_cons.mpr ⟨sa_kv168, List.forall_mem_cons.mpr ⟨sa_kv169, List.forall_mem_cons.mpr ⟨sa_kv170, List.forall_mem_cons.mpr ⟨sa_kv171, List.forall_mem_cons.mpr ⟨sa_kv172, List.forall_mem_cons.mpr ⟨sa_kv173, List.forall_mem_cons.mpr ⟨sa_kv174, List.forall_mem_cons.mpr ⟨sa_kv175, List.forall_mem_cons.mpr ⟨sa_kv176, List.forall_mem_cons.mpr ⟨sa_kv177, List.forall_mem_cons.mpr ⟨sa_kv178, List.forall_mem_cons.mpr ⟨sa_kv179, List.forall_mem_cons.mpr ⟨sa_kv180, List.forall_mem_cons.mpr ⟨sa_kv181, List.forall_mem_cons.mpr ⟨sa_kv182, List.forall_mem_cons.mpr ⟨sa_kv183, List.forall_mem_cons.mpr ⟨sa_kv184, List.forall_mem_cons.mpr ⟨sa_kv185, List.forall_mem_cons.mpr ⟨sa_kv186, List.forall_mem_cons.mpr ⟨sa_kv187, List.forall_mem_cons.mpr ⟨sa_kv188, List.forall_mem_cons.mpr ⟨sa_kv189, List.forall_mem_cons.mpr ⟨sa_kv190, List.forall_mem_cons.mpr ⟨sa_kv191, List.forall_mem_cons.mpr ⟨sa_kv192, List.forall_mem_cons.mpr ⟨sa_kv193, List.forall_mem_cons.mpr ⟨sa_kv194, List.forall_mem_cons.mpr ⟨sa_kv195, List.forall_mem_cons.mpr ⟨sa_kv196, List.forall_mem_cons.mpr ⟨sa_kv197, List.forall_mem_cons.mpr ⟨sa_kv198, List.forall_mem_cons.mpr ⟨sa_kv199, fun _ h => absurd h List.not_mem_nil⟩⟩⟩⟩⟩⟩⟩⟩⟩⟩⟩⟩⟩⟩⟩⟩⟩⟩⟩⟩⟩⟩⟩⟩⟩⟩⟩⟩⟩⟩⟩⟩⟩⟩⟩⟩⟩⟩⟩⟩
def sa_M5 : List sa_Me := [(11, yX11_checkHunter, cX11_checkHunter, 2, none, none, sa_k200),
  (11, yX11_checkTale, cX11_checkTale, 2, none, none, sa_k201),
  (11, yX11_checkBelief, cX11_checkBelief, 2, none, none, sa_k202),
  (11, yX11_checkWhat, cX11_checkWhat, 3, none, none, sa_k203),
  (11, yX11_checkTries, cX11_checkTries, 2, none, none, sa_k204),
  (11, yX11_checkAhead, cX11_checkAhead, 3, none, none, sa_k205),
  (11, yX11_checkCreatureSet, cX11_checkCreatureSet, 2, none, none, sa_k206),
  (12, yX12_init, cX12_init, 1, none, none, sa_k207),
  (12, yX12_thrown, cX12_thrown, 1, (some .int), none, sa_k208),
  (12, yX12_right, cX12_right, 3, (some .boolean), none, sa_k209),
  (12, yX12_within, cX12_within, 3, (some .boolean), none, sa_k210),
  (12, yX12_lesser, cX12_lesser, 2, (some .int), none, sa_k211),
  (12, yX12_copies, cX12_copies, 4, none, none, sa_k212),
  (12, yX12_bits, cX12_bits, 3, (some .int), none, sa_k213),
  (12, yX12_feed, cX12_feed, 6, (some .int), none, sa_k214),
  (12, yX12_lays, cX12_lays, 3, none, none, sa_k215),
  (12, yX12_byteAt, cX12_byteAt, 2, (some .int), none, sa_k216),
  (12, yX12_isLetter, cX12_isLetter, 1, (some .boolean), none, sa_k217),
  (12, yX12_isDigit, cX12_isDigit, 1, (some .boolean), none, sa_k218),
  (12, yX12_goes, cX12_goes, 2, none, none, sa_k219),
  (12, yX12_spelled, cX12_spelled, 10, (some .long), none, sa_k220),
  (12, yX12_letters, cX12_letters, 1, (some .long), none, sa_k221),
  (12, yX12_knownWord, cX12_knownWord, 2, (some .int), none, sa_k222),
  (12, yX12_wrong, cX12_wrong, 2, none, none, sa_k223),
  (12, yX12_isGood, cX12_isGood, 1, (some .boolean), none, sa_k224),
  (12, yX12_isSign, cX12_isSign, 2, (some .boolean), none, sa_k225),
  (12, yX12_need, cX12_need, 2, none, none, sa_k226),
  (12, yX12_number, cX12_number, 4, (some .int), none, sa_k227),
  (12, yX12_puts, cX12_puts, 2, none, none, sa_k228),
  (12, yX12_isOpen, cX12_isOpen, 1, (some .boolean), none, sa_k229),
  (12, yX12_strength, cX12_strength, 1, (some .int), none, sa_k230),
  (12, yX12_drops, cX12_drops, 2, none, none, sa_k231),
  (12, yX12_waitsFor, cX12_waitsFor, 2, none, none, sa_k232),
  (12, yX12_part, cX12_part, 2, none, none, sa_k233),
  (12, yX12_deeper, cX12_deeper, 1, none, none, sa_k234),
  (12, yX12_operand, cX12_operand, 5, none, none, sa_k235),
  (12, yX12_isOpened, cX12_isOpened, 2, (some .boolean), none, sa_k236),
  (12, yX12_closes, cX12_closes, 1, none, none, sa_k237),
  (12, yX12_expression, cX12_expression, 3, none, none, sa_k238),
  (12, yX12_begins, cX12_begins, 3, (some .boolean), none, sa_k239)]
theorem sa_Mv5 : ∀ e ∈ sa_M5, ∀ q ∈ e.2.2.2.2.2.2, decode e.2.2.1 q.1 = .ok q.2 ∧ sa_ln q.2.1 q.2.2 = true := List.forall_mem_cons.mpr ⟨sa_kv200, List.forall_mem_cons.mpr ⟨sa_kv201, List.forall_mem_cons.mpr ⟨sa_kv202, List.forall_mem_cons.mpr ⟨sa_kv203, List.forall_mem_cons.mpr ⟨sa_kv204, List.forall_mem_cons.mpr ⟨sa_kv205, List.forall_mem_cons.mpr ⟨sa_kv206, List.forall_mem_cons.mpr ⟨sa_kv207, List.forall_mem_cons.mpr ⟨sa_kv208, List.forall_mem_cons.mpr ⟨sa_kv209, List.forall_mem_cons.mpr ⟨sa_kv210, List.forall_mem_cons.mpr ⟨sa_kv211, List.forall_mem_cons.mpr ⟨sa_kv212, List.forall_mem_cons.mpr ⟨sa_kv213, List.forall_mem_cons.mpr ⟨sa_kv214, List.forall_mem_cons.mpr ⟨sa_kv215, List.forall_mem_cons.mpr ⟨sa_kv216, List.forall_mem_cons.mpr ⟨sa_kv217, List.forall_mem_cons.mpr ⟨sa_kv218, List.forall_mem_cons.mpr ⟨sa_kv219, List.forall_mem_cons.mpr ⟨sa_kv220, List.forall_mem_cons.mpr ⟨sa_kv221, List.forall_mem_cons.mpr ⟨sa_kv222, List.forall_mem_cons.mpr ⟨sa_kv223, List.forall_mem_cons.mpr ⟨sa_kv224, List.forall_mem_cons.mpr ⟨sa_kv225, List.forall_mem_cons.mpr ⟨sa_kv226, List.forall_mem_cons.mpr ⟨sa_kv227, List.forall_mem_cons.mpr ⟨sa_kv228, List.forall_mem_cons.mpr ⟨sa_kv229, List.forall_mem_cons.mpr ⟨sa_kv230, List.forall_mem_cons.mpr ⟨sa_kv231, List.forall_mem_cons.mpr ⟨sa_kv232, List.forall_mem_cons.mpr ⟨sa_kv233, List.forall_mem_cons.mpr ⟨sa_kv234, List.forall_mem_cons.mpr ⟨sa_kv235, List.forall_mem_cons.mpr ⟨sa_kv236, List.forall_mem_cons.mpr ⟨sa_kv237, List.forall_mem_cons.mpr ⟨sa_kv238, List.forall_mem_cons.mpr ⟨sa_kv239, fun _ h => absurd h List.not_mem_nil⟩⟩⟩⟩⟩⟩⟩⟩⟩⟩⟩⟩⟩⟩⟩⟩⟩⟩⟩⟩⟩⟩⟩⟩⟩⟩⟩⟩⟩⟩⟩⟩⟩⟩⟩⟩⟩⟩⟩⟩
def sa_M6 : List sa_Me := [(12, yX12_readsCreature, cX12_readsCreature, 2, none, none, sa_k240),
  (12, yX12_readsTrick, cX12_readsTrick, 2, none, none, sa_k241),
  (12, yX12_readsHunter, cX12_readsHunter, 1, none, none, sa_k242),
  (12, yX12_line, cX12_line, 2, none, none, sa_k243),
  (12, yX12_sky, cX12_sky, 3, (some .int), none, sa_k244),
  (12, yX12_fault, cX12_fault, 1, (some .int), none, sa_k245),
  (12, yX12_keeps, cX12_keeps, 2, none, none, sa_k246),
  (12, yX12_refuses, cX12_refuses, 2, (some .int), none, sa_k247),
  (12, yX12_undo, cX12_undo, 2, (some .int), none, sa_k248),
  (12, yX12_tries, cX12_tries, 2, none, none, sa_k249),
  (12, yX12_works, cX12_works, 3, (some .int), none, sa_k250),
  (12, yX12_reckons, cX12_reckons, 5, (some .int), none, sa_k251),
  (12, yX12_those, cX12_those, 5, (some .int), none, sa_k252),
  (12, yX12_helpOf, cX12_helpOf, 4, (some .int), none, sa_k253),
  (12, yX12_isBound, cX12_isBound, 6, (some .boolean), none, sa_k254),
  (12, yX12_doesWork, cX12_doesWork, 3, (some .boolean), none, sa_k255),
  (12, yX12_believes, cX12_believes, 3, (some .int), none, sa_k256),
  (12, yX12_corded, cX12_corded, 4, (some .int), none, sa_k257),
  (12, yX12_attempts, cX12_attempts, 5, (some .int), none, sa_k258),
  (12, yX12_mayTry, cX12_mayTry, 4, (some .boolean), none, sa_k259),
  (12, yX12_steals, cX12_steals, 4, none, none, sa_k260),
  (12, yX12_dayGoes, cX12_dayGoes, 3, none, none, sa_k261),
  (12, yX12_count, cX12_count, 2, (some .int), none, sa_k262),
  (12, yX12_isCreature, cX12_isCreature, 2, (some .boolean), none, sa_k263),
  (12, yX12_isTrick, cX12_isTrick, 2, (some .boolean), none, sa_k264),
  (12, yX12_isWhat, cX12_isWhat, 3, (some .boolean), none, sa_k265),
  (12, yX12_keys, cX12_keys, 4, (some .int), none, sa_k266),
  (12, yX12_creature, cX12_creature, 3, (some .int), none, sa_k267),
  (12, yX12_trick, cX12_trick, 3, (some .int), none, sa_k268),
  (12, yX12_attempt, cX12_attempt, 3, (some .int), none, sa_k269),
  (12, yX12_days, cX12_days, 3, (some .int), none, sa_k270),
  (12, yX12_guard, cX12_guard, 2, (some .boolean), none, sa_k271),
  (12, yX12_give, cX12_give, 2, (some .int), none, sa_k272),
  (12, yX12_tell, cX12_tell, 5, (some .int), none, sa_k273),
  (12, yX12_placeOf, cX12_placeOf, 2, (some .int), none, sa_k274),
  (12, yX12_comes, cX12_comes, 4, none, none, sa_k275),
  (12, yX12_starts, cX12_starts, 3, none, none, sa_k276),
  (12, yX12_laysRow, cX12_laysRow, 6, (some .int), none, sa_k277),
  (12, yX12_fewest, cX12_fewest, 8, (some .int), none, sa_k278),
  (12, yX12_plan, cX12_plan, 4, (some .int), none, sa_k279)]
theorem sa_Mv6 : ∀ e ∈ sa_M6, ∀ q ∈ e.2.2.2.2.2.2, decode e.2.2.1 q.1 = .ok q.2 ∧ sa_ln q.2.1 q.2.2 = true := List.forall_mem_cons.mpr ⟨sa_kv240, List.forall_mem_cons.mpr ⟨sa_kv241, List.forall_mem_cons.mpr ⟨sa_kv242, List.forall_mem_cons.mpr ⟨sa_kv243, List.forall_mem_cons.mpr ⟨sa_kv244, List.forall_mem_cons.mpr ⟨sa_kv245, List.forall_mem_cons.mpr ⟨sa_kv246, List.forall_mem_cons.mpr ⟨sa_kv247, List.forall_mem_cons.mpr ⟨sa_kv248, List.forall_mem_cons.mpr ⟨sa_kv249, List.forall_mem_cons.mpr ⟨sa_kv250, List.forall_mem_cons.mpr ⟨sa_kv251, List.forall_mem_cons.mpr ⟨sa_kv252, List.forall_mem_cons.mpr ⟨sa_kv253, List.forall_mem_cons.mpr ⟨sa_kv254, List.forall_mem_cons.mpr ⟨sa_kv255, List.forall_mem_cons.mpr ⟨sa_kv256, List.forall_mem_cons.mpr ⟨sa_kv257, List.forall_mem_cons.mpr ⟨sa_kv258, List.forall_mem_cons.mpr ⟨sa_kv259, List.forall_mem_cons.mpr ⟨sa_kv260, List.forall_mem_cons.mpr ⟨sa_kv261, List.forall_mem_cons.mpr ⟨sa_kv262, List.forall_mem_cons.mpr ⟨sa_kv263, List.forall_mem_cons.mpr ⟨sa_kv264, List.forall_mem_cons.mpr ⟨sa_kv265, List.forall_mem_cons.mpr ⟨sa_kv266, List.forall_mem_cons.mpr ⟨sa_kv267, List.forall_mem_cons.mpr ⟨sa_kv268, List.forall_mem_cons.mpr ⟨sa_kv269, List.forall_mem_cons.mpr ⟨sa_kv270, List.forall_mem_cons.mpr ⟨sa_kv271, List.forall_mem_cons.mpr ⟨sa_kv272, List.forall_mem_cons.mpr ⟨sa_kv273, List.forall_mem_cons.mpr ⟨sa_kv274, List.forall_mem_cons.mpr ⟨sa_kv275, List.forall_mem_cons.mpr ⟨sa_kv276, List.forall_mem_cons.mpr ⟨sa_kv277, List.forall_mem_cons.mpr ⟨sa_kv278, List.forall_mem_cons.mpr ⟨sa_kv279, fun _ h => absurd h List.not_mem_nil⟩⟩⟩⟩⟩⟩⟩⟩⟩⟩⟩⟩⟩⟩⟩⟩⟩⟩⟩⟩⟩⟩⟩⟩⟩⟩⟩⟩⟩⟩⟩⟩⟩⟩⟩⟩⟩⟩⟩⟩
def sa_M7 : List sa_Me := [(12, yX12_cheapens, cX12_cheapens, 10, none, none, sa_k280),
  (12, yX12_cheapest, cX12_cheapest, 5, (some .int), none, sa_k281),
  (12, yX12_canBelieve, cX12_canBelieve, 10, (some .boolean), none, sa_k282),
  (12, yX12_nearest, cX12_nearest, 6, (some .int), none, sa_k283),
  (12, yX12_laysOrder, cX12_laysOrder, 5, none, none, sa_k284),
  (12, yX12_order, cX12_order, 7, (some .int), none, sa_k285),
  (12, yX12_daysGo, cX12_daysGo, 3, none, none, sa_k286),
  (12, yX12_stolen, cX12_stolen, 2, (some .int), none, sa_k287),
  (12, yX12_cord, cX12_cord, 3, (some .int), none, sa_k288),
  (12, yX12_when, cX12_when, 3, (some .int), none, sa_k289),
  (12, yX12_keptBy, cX12_keptBy, 5, (some .int), none, sa_k290),
  (12, yX12_toGuard, cX12_toGuard, 6, (some .int), none, sa_k291),
  (12, yX12_isSet, cX12_isSet, 2, (some .boolean), none, sa_k292),
  (12, yX12_payersOf, cX12_payersOf, 7, (some .int), none, sa_k293),
  (12, yX12_payers, cX12_payers, 3, (some .int), none, sa_k294),
  (12, yX12_few, cX12_few, 4, (some .int), none, sa_k295),
  (12, yX12_partsOf, cX12_partsOf, 4, (some .int), none, sa_k296),
  (12, yX12_tellers, cX12_tellers, 4, (some .int), none, sa_k297),
  (12, yX12_borrowed, cX12_borrowed, 7, (some .int), none, sa_k298),
  (12, yX12_mark, cX12_mark, 5, (some .int), none, sa_k299),
  (12, yX12_forget, cX12_forget, 1, none, none, sa_k300),
  (12, yX12_power, cX12_power, 4, (some .int), none, sa_k301),
  (12, yX12_isMarked, cX12_isMarked, 6, (some .boolean), none, sa_k302),
  (12, yX12_rowNumber, cX12_rowNumber, 4, (some .int), none, sa_k303),
  (12, yX12_isTries, cX12_isTries, 2, (some .boolean), none, sa_k304),
  (12, yX12_how, cX12_how, 7, (some .int), none, sa_k305),
  (12, yX12_next, cX12_next, 9, (some .int), none, sa_k306),
  (12, yX12_gains, cX12_gains, 8, (some .int), none, sa_k307),
  (12, yX12_game, cX12_game, 10, (some .int), none, sa_k308),
  (12, yX12_draw, cX12_draw, 2, (some .int), none, sa_k309),
  (12, yX12_spiderGoes, cX12_spiderGoes, 4, none, none, sa_k310),
  (12, yX12_spiders, cX12_spiders, 8, (some .int), none, sa_k311),
  (12, yX12_fooled, cX12_fooled, 4, (some .int), none, sa_k312),
  (12, yX12_lacking, cX12_lacking, 3, (some .int), none, sa_k313),
  (12, yX12_explores, cX12_explores, 8, none, none, sa_k314),
  (12, yX12_useless, cX12_useless, 3, (some .int), none, sa_k315),
  (12, yX12_firm, cX12_firm, 2, (some .int), none, sa_k316),
  (12, yX12_loot, cX12_loot, 4, (some .int), none, sa_k317),
  (12, yX12_offer, cX12_offer, 6, (some .int), none, sa_k318),
  (12, yX12_alone, cX12_alone, 2, (some .int), none, sa_k319)]
theorem sa_Mv7 : ∀ e ∈ sa_M7, ∀ q ∈ e.2.2.2.2.2.2, decode e.2.2.1 q.1 = .ok q.2 ∧ sa_ln q.2.1 q.2.2 = true := List.forall_mem_cons.mpr ⟨sa_kv280, List.forall_mem_cons.mpr ⟨sa_kv281, List.forall_mem_cons.mpr ⟨sa_kv282, List.forall_mem_cons.mpr ⟨sa_kv283, List.forall_mem_cons.mpr ⟨sa_kv284, List.forall_mem_cons.mpr ⟨sa_kv285, List.forall_mem_cons.mpr ⟨sa_kv286, List.forall_mem_cons.mpr ⟨sa_kv287, List.forall_mem_cons.mpr ⟨sa_kv288, List.forall_mem_cons.mpr ⟨sa_kv289, List.forall_mem_cons.mpr ⟨sa_kv290, List.forall_mem_cons.mpr ⟨sa_kv291, List.forall_mem_cons.mpr ⟨sa_kv292, List.forall_mem_cons.mpr ⟨sa_kv293, List.forall_mem_cons.mpr ⟨sa_kv294, List.forall_mem_cons.mpr ⟨sa_kv295, List.forall_mem_cons.mpr ⟨sa_kv296, List.forall_mem_cons.mpr ⟨sa_kv297, List.forall_mem_cons.mpr ⟨sa_kv298, List.forall_mem_cons.mpr ⟨sa_kv299, List.forall_mem_cons.mpr ⟨sa_kv300, List.forall_mem_cons.mpr ⟨sa_kv301, List.forall_mem_cons.mpr ⟨sa_kv302, List.forall_mem_cons.mpr ⟨sa_kv303, List.forall_mem_cons.mpr ⟨sa_kv304, List.forall_mem_cons.mpr ⟨sa_kv305, List.forall_mem_cons.mpr ⟨sa_kv306, List.forall_mem_cons.mpr ⟨sa_kv307, List.forall_mem_cons.mpr ⟨sa_kv308, List.forall_mem_cons.mpr ⟨sa_kv309, List.forall_mem_cons.mpr ⟨sa_kv310, List.forall_mem_cons.mpr ⟨sa_kv311, List.forall_mem_cons.mpr ⟨sa_kv312, List.forall_mem_cons.mpr ⟨sa_kv313, List.forall_mem_cons.mpr ⟨sa_kv314, List.forall_mem_cons.mpr ⟨sa_kv315, List.forall_mem_cons.mpr ⟨sa_kv316, List.forall_mem_cons.mpr ⟨sa_kv317, List.forall_mem_cons.mpr ⟨sa_kv318, List.forall_mem_cons.mpr ⟨sa_kv319, fun _ h => absurd h List.not_mem_nil⟩⟩⟩⟩⟩⟩⟩⟩⟩⟩⟩⟩⟩⟩⟩⟩⟩⟩⟩⟩⟩⟩⟩⟩⟩⟩⟩⟩⟩⟩⟩⟩⟩⟩⟩⟩⟩⟩⟩⟩
def sa_M8 : List sa_Me := [(12, yX12_like, cX12_like, 4, (some .int), none, sa_k320),
  (12, yX12_image, cX12_image, 2, none, none, sa_k321),
  (12, yX12_restore, cX12_restore, 2, (some .boolean), none, sa_k322),
  (13, yL_sky, cL_sky, 4, (some .int), (some [(0, 9, 12, 13)]), sa_k323),
  (13, yL_count, cL_count, 4, (some .int), (some [(0, 9, 12, 18)]), sa_k324),
  (13, yL_creature, cL_creature, 5, (some .int), (some [(0, 10, 13, 18)]), sa_k325),
  (13, yL_trick, cL_trick, 5, (some .int), (some [(0, 10, 13, 18)]), sa_k326),
  (13, yL_attempt, cL_attempt, 5, (some .int), (some [(0, 10, 13, 18)]), sa_k327),
  (13, yL_guard, cL_guard, 4, (some .int), (some [(0, 16, 19, 18)]), sa_k328),
  (13, yL_tell, cL_tell, 6, (some .int), (some [(0, 12, 15, 18)]), sa_k329),
  (13, yL_plan, cL_plan, 5, (some .int), (some [(0, 10, 13, 18)]), sa_k330),
  (13, yL_cheapest, cL_cheapest, 4, (some .int), (some [(0, 9, 12, 18)]), sa_k331),
  (13, yL_canBelieve, cL_canBelieve, 6, (some .int), (some [(0, 19, 22, 18), (0, 19, 26, 13)]), sa_k332),
  (13, yL_order, cL_order, 4, (some .int), (some [(0, 9, 12, 18)]), sa_k333),
  (13, yL_stolen, cL_stolen, 4, (some .int), (some [(0, 9, 12, 13)]), sa_k334),
  (13, yL_cord, cL_cord, 5, (some .int), (some [(0, 10, 13, 18), (0, 10, 17, 13)]), sa_k335),
  (13, yL_when, cL_when, 4, (some .int), (some [(0, 9, 12, 18)]), sa_k336),
  (13, yL_toGuard, cL_toGuard, 4, (some .int), (some [(0, 9, 12, 13)]), sa_k337),
  (13, yL_payers, cL_payers, 5, (some .int), (some [(0, 10, 13, 13)]), sa_k338),
  (13, yL_few, cL_few, 5, (some .int), (some [(0, 10, 13, 13)]), sa_k339),
  (13, yL_borrowed, cL_borrowed, 5, (some .int), (some [(0, 10, 13, 18)]), sa_k340),
  (13, yL_mark, cL_mark, 7, (some .int), (some [(0, 14, 17, 18)]), sa_k341),
  (13, yL_how, cL_how, 6, (some .int), (some [(0, 12, 15, 18), (0, 12, 19, 13)]), sa_k342),
  (13, yL_next, cL_next, 6, (some .int), (some [(0, 12, 15, 18), (0, 12, 19, 13)]), sa_k343),
  (13, yL_game, cL_game, 7, (some .int), (some [(0, 14, 17, 18), (0, 14, 21, 13)]), sa_k344),
  (13, yL_spiders, cL_spiders, 6, (some .int), (some [(0, 12, 15, 18), (0, 12, 19, 13)]), sa_k345),
  (13, yL_fooled, cL_fooled, 4, (some .int), (some [(0, 9, 12, 18)]), sa_k346),
  (13, yL_lacking, cL_lacking, 5, (some .int), (some [(0, 10, 13, 18)]), sa_k347),
  (13, yL_firm, cL_firm, 4, (some .int), (some [(0, 9, 12, 18)]), sa_k348),
  (13, yL_loot, cL_loot, 4, (some .int), (some [(0, 9, 12, 13)]), sa_k349),
  (13, yL_offer, cL_offer, 5, (some .int), (some [(0, 10, 13, 18), (0, 10, 17, 13)]), sa_k350),
  (13, yL_alone, cL_alone, 4, (some .int), (some [(0, 9, 12, 18)]), sa_k351),
  (14, yJ6_bitCount_0f7a4, cJ6_bitCount_0f7a4, 1, (some .int), none, sa_k352),
  (15, yJ7_fill_d0a16, cJ7_fill_d0a16, 5, none, none, sa_k353),
  (15, yJ7_fill_53178, cJ7_fill_53178, 4, none, none, sa_k354),
  (16, yJ0_length_8abf5, cJ0_length_8abf5, 1, (some .int), none, sa_k355),
  (16, yJ0_charAt_5068e, cJ0_charAt_5068e, 2, (some .char), none, sa_k356),
  (16, yJ0_coder_7d493, cJ0_coder_7d493, 1, (some .byte), none, sa_k357),
  (16, yJ0_isLatin1_aae02, cJ0_isLatin1_aae02, 1, (some .boolean), none, sa_k358),
  (16, yJ0_checkIndex_df160, cJ0_checkIndex_df160, 2, none, none, sa_k359)]
theorem sa_Mv8 : ∀ e ∈ sa_M8, ∀ q ∈ e.2.2.2.2.2.2, decode e.2.2.1 q.1 = .ok q.2 ∧ sa_ln q.2.1 q.2.2 = true := List.forall_mem_cons.mpr ⟨sa_kv320, List.forall_mem_cons.mpr ⟨sa_kv321, List.forall_mem_cons.mpr ⟨sa_kv322, List.forall_mem_cons.mpr ⟨sa_kv323, List.forall_mem_cons.mpr ⟨sa_kv324, List.forall_mem_cons.mpr ⟨sa_kv325, List.forall_mem_cons.mpr ⟨sa_kv326, List.forall_mem_cons.mpr ⟨sa_kv327, List.forall_mem_cons.mpr ⟨sa_kv328, List.forall_mem_cons.mpr ⟨sa_kv329, List.forall_mem_cons.mpr ⟨sa_kv330, List.forall_mem_cons.mpr ⟨sa_kv331, List.forall_mem_cons.mpr ⟨sa_kv332, List.forall_mem_cons.mpr ⟨sa_kv333, List.forall_mem_cons.mpr ⟨sa_kv334, List.forall_mem_cons.mpr ⟨sa_kv335, List.forall_mem_cons.mpr ⟨sa_kv336, List.forall_mem_cons.mpr ⟨sa_kv337, List.forall_mem_cons.mpr ⟨sa_kv338, List.forall_mem_cons.mpr ⟨sa_kv339, List.forall_mem_cons.mpr ⟨sa_kv340, List.forall_mem_cons.mpr ⟨sa_kv341, List.forall_mem_cons.mpr ⟨sa_kv342, List.forall_mem_cons.mpr ⟨sa_kv343, List.forall_mem_cons.mpr ⟨sa_kv344, List.forall_mem_cons.mpr ⟨sa_kv345, List.forall_mem_cons.mpr ⟨sa_kv346, List.forall_mem_cons.mpr ⟨sa_kv347, List.forall_mem_cons.mpr ⟨sa_kv348, List.forall_mem_cons.mpr ⟨sa_kv349, List.forall_mem_cons.mpr ⟨sa_kv350, List.forall_mem_cons.mpr ⟨sa_kv351, List.forall_mem_cons.mpr ⟨sa_kv352, List.forall_mem_cons.mpr ⟨sa_kv353, List.forall_mem_cons.mpr ⟨sa_kv354, List.forall_mem_cons.mpr ⟨sa_kv355, List.forall_mem_cons.mpr ⟨sa_kv356, List.forall_mem_cons.mpr ⟨sa_kv357, List.forall_mem_cons.mpr ⟨sa_kv358, List.forall_mem_cons.mpr ⟨sa_kv359, fun _ h => absurd h List.not_mem_nil⟩⟩⟩⟩⟩⟩⟩⟩⟩⟩⟩⟩⟩⟩⟩⟩⟩⟩⟩⟩⟩⟩⟩⟩⟩⟩⟩⟩⟩⟩⟩⟩⟩⟩⟩⟩⟩⟩⟩⟩
def sa_M9 : List sa_Me := [(17, yJ1_charAt_3b067, cJ1_charAt_3b067, 2, (some .char), none, sa_k360),
  (18, yJ3_checkIndex_8e157, cJ3_checkIndex_8e157, 3, (some .int), none, sa_k361)]
theorem sa_Mv9 : ∀ e ∈ sa_M9, ∀ q ∈ e.2.2.2.2.2.2, decode e.2.2.1 q.1 = .ok q.2 ∧ sa_ln q.2.1 q.2.2 = true := List.forall_mem_cons.mpr ⟨sa_kv360, List.forall_mem_cons.mpr ⟨sa_kv361, fun _ h => absurd h List.not_mem_nil⟩⟩
def sa_M : List sa_Me := sa_M0 ++ (sa_M1 ++ (sa_M2 ++ (sa_M3 ++ (sa_M4 ++ (sa_M5 ++ (sa_M6 ++ (sa_M7 ++ (sa_M8 ++ (sa_M9)))))))))
theorem sa_Mv : ∀ e ∈ sa_M, ∀ q ∈ e.2.2.2.2.2.2, decode e.2.2.1 q.1 = .ok q.2 ∧ sa_ln q.2.1 q.2.2 = true := List.forall_mem_append.mpr ⟨sa_Mv0, List.forall_mem_append.mpr ⟨sa_Mv1, List.forall_mem_append.mpr ⟨sa_Mv2, List.forall_mem_append.mpr ⟨sa_Mv3, List.forall_mem_append.mpr ⟨sa_Mv4, List.forall_mem_append.mpr ⟨sa_Mv5, List.forall_mem_append.mpr ⟨sa_Mv6, List.forall_mem_append.mpr ⟨sa_Mv7, List.forall_mem_append.mpr ⟨sa_Mv8, sa_Mv9⟩⟩⟩⟩⟩⟩⟩⟩⟩
def sa_law : sa_Me := (13, x, code, 7, ret, none, sa_k362)
def sa_Ma : List sa_Me := sa_M ++ [sa_law]
def sa_cn : List String := [RX0, RX1, RX2, RX3, RX4, RX5, RX6, RX7, RX8, RX9, RX10, RX11, RX12, RL, RJ6, RJ7, RJ0, RJ1, RJ3]
def sa_C (k : Nat) : String := sa_cn.getD k ""
def sa_tys : List (Nat → FieldType) := [tyX0, tyX1, tyX2, tyX3, tyX4, tyX5, tyX6, tyX7, tyX8, tyX9, tyX10, tyX11, tyX12]
def sa_pF : List ((Nat × Nat) × (Nat × Nat × Bool)) := [((8, 16), (8, 0, false)), ((8, 20), (8, 1, false)), ((8, 13), (8, 2, false)), ((8, 7), (8, 3, false)), ((4, 9), (4, 0, false)), ((4, 15), (4, 1, false)), ((4, 18), (4, 2, false)), ((4, 21), (4, 3, false)), ((6, 18), (6, 0, false)), ((7, 25), (6, 0, true)), ((2, 50), (6, 0, true)), ((1, 53), (6, 0, true)), ((0, 53), (6, 0, true)), ((11, 117), (6, 0, true)), ((6, 27), (6, 1, false)), ((2, 58), (6, 1, true)), ((11, 126), (6, 1, true)), ((3, 92), (6, 1, true)), ((0, 87), (6, 1, true)), ((5, 95), (6, 1, true)), ((7, 51), (6, 1, true)), ((6, 33), (6, 2, false)), ((2, 61), (6, 2, true)), ((11, 129), (6, 2, true)), ((6, 39), (6, 3, false)), ((2, 64), (6, 3, true)), ((11, 132), (6, 3, true)), ((6, 45), (6, 4, false)), ((2, 118), (6, 4, true)), ((6, 49), (6, 5, false)), ((6, 53), (6, 6, false)), ((9, 28), (9, 0, false)), ((9, 7), (9, 1, false)), ((9, 13), (9, 2, false)), ((9, 16), (9, 3, false)), ((9, 19), (9, 4, false)), ((9, 22), (9, 5, false)), ((9, 25), (9, 6, false)), ((2, 30), (2, 0, false)), ((2, 34), (2, 1, false)), ((2, 9), (2, 2, false)), ((2, 15), (2, 3, false)), ((2, 18), (2, 4, false)), ((2, 22), (2, 5, false)), ((7, 15), (7, 0, false)), ((7, 11), (7, 1, false)), ((10, 50), (7, 1, true)), ((10, 33), (10, 0, false)), ((11, 68), (10, 0, true)), ((3, 43), (10, 0, true)), ((10, 11), (10, 1, false)), ((10, 17), (10, 2, false)), ((10, 21), (10, 3, false)), ((10, 24), (10, 4, false)), ((10, 27), (10, 5, false)), ((5, 63), (5, 0, false)), ((5, 11), (5, 1, false)), ((5, 15), (5, 2, false)), ((5, 18), (5, 3, false)), ((5, 21), (5, 4, false)), ((5, 25), (5, 5, false)), ((5, 28), (5, 6, false)), ((5, 31), (5, 7, false)), ((5, 34), (5, 8, false)), ((5, 38), (5, 9, false)), ((5, 41), (5, 10, false)), ((5, 44), (5, 11, false)), ((5, 47), (5, 12, false)), ((5, 50), (5, 13, false)), ((5, 53), (5, 14, false)), ((5, 56), (5, 15, false)), ((5, 60), (5, 16, false)), ((1, 21), (1, 0, false)), ((1, 25), (1, 1, false)), ((1, 29), (1, 2, false)), ((1, 11), (1, 3, false)), ((1, 15), (1, 4, false)), ((1, 18), (1, 5, false)), ((3, 26), (3, 0, false)), ((3, 30), (3, 1, false)), ((3, 9), (3, 2, false)), ((3, 15), (3, 3, false)), ((3, 19), (3, 4, false)), ((3, 23), (3, 5, false)), ((0, 15), (0, 0, false)), ((0, 19), (0, 1, false)), ((0, 28), (0, 2, false)), ((0, 9), (0, 3, false)), ((11, 9), (11, 0, false)), ((11, 13), (11, 1, false)), ((11, 17), (11, 2, false)), ((11, 20), (11, 3, false)), ((11, 27), (11, 4, false)), ((11, 31), (11, 5, false)), ((11, 39), (11, 6, false)), ((11, 48), (11, 7, false)), ((11, 52), (11, 8, false)), ((11, 55), (11, 9, false)), ((11, 62), (11, 10, false)), ((11, 75), (11, 11, false)), ((11, 84), (11, 12, false)), ((11, 93), (11, 13, false)), ((12, 172), (12, 0, false)), ((12, 338), (12, 1, false)), ((12, 341), (12, 2, false)), ((12, 344), (12, 3, false)), ((12, 347), (12, 4, false)), ((12, 350), (12, 5, false)), ((12, 9), (12, 6, false)), ((12, 13), (12, 7, false)), ((12, 17), (12, 8, false)), ((12, 20), (12, 9, false)), ((12, 23), (12, 10, false)), ((12, 26), (12, 11, false)), ((12, 29), (12, 12, false)), ((12, 32), (12, 13, false)), ((12, 35), (12, 14, false)), ((12, 38), (12, 15, false)), ((12, 41), (12, 16, false)), ((12, 44), (12, 17, false)), ((12, 47), (12, 18, false)), ((12, 50), (12, 19, false)), ((12, 53), (12, 20, false)), ((12, 175), (12, 21, false)), ((12, 228), (12, 22, false)), ((12, 56), (12, 23, false)), ((12, 59), (12, 24, false)), ((12, 182), (12, 25, false)), ((12, 185), (12, 26, false)), ((12, 205), (12, 27, false)), ((12, 192), (12, 28, false)), ((12, 215), (12, 29, false)), ((12, 199), (12, 30, false)), ((12, 202), (12, 31, false)), ((12, 195), (12, 32, false)), ((12, 287), (12, 33, false)), ((12, 294), (12, 34, false)), ((12, 297), (12, 35, false)), ((12, 313), (12, 36, false)), ((12, 316), (12, 37, false)), ((12, 319), (12, 38, false)), ((12, 322), (12, 39, false)), ((12, 241), (12, 40, false)), ((12, 244), (12, 41, false)), ((12, 259), (12, 42, false)), ((12, 62), (12, 43, false)), ((12, 65), (12, 44, false)), ((12, 68), (12, 45, false)), ((12, 71), (12, 46, false)), ((12, 74), (12, 47, false)), ((12, 77), (12, 48, false)), ((12, 80), (12, 49, false)), ((12, 83), (12, 50, false)), ((12, 86), (12, 51, false)), ((12, 89), (12, 52, false)), ((12, 92), (12, 53, false)), ((12, 95), (12, 54, false)), ((12, 98), (12, 55, false)), ((12, 101), (12, 56, false)), ((12, 104), (12, 57, false)), ((12, 107), (12, 58, false)), ((12, 111), (12, 59, false)), ((12, 114), (12, 60, false)), ((12, 357), (12, 61, false)), ((12, 117), (12, 62, false)), ((12, 120), (12, 63, false)), ((12, 123), (12, 64, false)), ((12, 126), (12, 65, false)), ((12, 129), (12, 66, false)), ((12, 132), (12, 67, false)), ((12, 135), (12, 68, false)), ((12, 138), (12, 69, false)), ((12, 141), (12, 70, false)), ((12, 434), (12, 71, false)), ((12, 454), (12, 72, false)), ((12, 457), (12, 73, false)), ((12, 144), (12, 74, false)), ((12, 147), (12, 75, false)), ((12, 360), (12, 76, false)), ((12, 150), (12, 77, false)), ((12, 153), (12, 78, false)), ((12, 156), (12, 79, false)), ((12, 159), (12, 80, false)), ((12, 501), (12, 81, false)), ((12, 511), (12, 82, false)), ((12, 514), (12, 83, false)), ((12, 517), (12, 84, false)), ((12, 363), (12, 85, false)), ((12, 523), (12, 86, false)), ((12, 526), (12, 87, false)), ((12, 163), (12, 88, false)), ((12, 166), (12, 89, false)), ((12, 169), (12, 90, false))]
def sa_pI : List ((Nat × Nat) × (Nat × Nat × Nat)) := [((13, 108), (2, 149, 0)), ((11, 1), (6, 0, 0)), ((11, 26), (3, 63, 0)), ((6, 3), (6, 0, 0)), ((6, 15), (2, 111, 2)), ((8, 1), (6, 0, 0)), ((6, 44), (3, 42, 0)), ((4, 3), (6, 0, 0)), ((11, 36), (2, 14, 2)), ((2, 3), (6, 0, 0)), ((2, 27), (2, 123, 1)), ((9, 1), (6, 0, 0)), ((11, 45), (2, 139, 1)), ((10, 3), (6, 0, 0)), ((10, 30), (2, 90, 1)), ((7, 5), (6, 0, 0)), ((11, 61), (2, 48, 1)), ((5, 5), (6, 0, 0)), ((11, 72), (2, 9, 3)), ((1, 3), (6, 0, 0)), ((11, 81), (2, 32, 2)), ((3, 3), (6, 0, 0)), ((11, 90), (2, 0, 2)), ((0, 3), (6, 0, 0)), ((0, 25), (2, 90, 1)), ((13, 112), (0, 150, 5)), ((11, 97), (0, 151, 1)), ((13, 127), (0, 153, 0)), ((13, 144), (0, 158, 1)), ((11, 140), (0, 95, 0)), ((11, 194), (0, 193, 0)), ((11, 197), (0, 143, 0)), ((10, 44), (7, 0, 5)), ((11, 203), (0, 109, 0)), ((7, 29), (0, 112, 0)), ((7, 44), (0, 102, 1)), ((7, 86), (0, 101, 1)), ((7, 73), (0, 103, 2)), ((7, 100), (0, 110, 0)), ((7, 103), (0, 95, 0)), ((7, 106), (0, 69, 1)), ((7, 110), (0, 96, 0)), ((7, 34), (0, 118, 2)), ((7, 97), (0, 104, 2)), ((13, 151), (0, 160, 1)), ((11, 135), (0, 93, 0)), ((11, 209), (9, 0, 2)), ((11, 214), (0, 94, 1)), ((13, 159), (0, 162, 0)), ((11, 224), (0, 144, 0)), ((11, 152), (0, 142, 0)), ((13, 194), (0, 173, 0)), ((11, 290), (0, 84, 0)), ((6, 115), (0, 117, 0)), ((6, 118), (0, 85, 1)), ((6, 71), (0, 112, 0)), ((6, 67), (0, 118, 2)), ((6, 88), (1, 352, 1)), ((13, 205), (0, 176, 0)), ((11, 309), (0, 147, 0)), ((13, 228), (0, 183, 0)), ((11, 121), (0, 112, 0)), ((11, 180), (0, 192, 1)), ((11, 177), (0, 102, 1)), ((11, 244), (0, 195, 1)), ((11, 149), (0, 106, 0)), ((11, 234), (0, 49, 3)), ((5, 67), (0, 100, 1)), ((5, 72), (0, 98, 1)), ((5, 75), (0, 101, 1)), ((5, 78), (1, 353, 2)), ((11, 369), (0, 50, 0)), ((5, 84), (0, 55, 0)), ((5, 91), (0, 56, 3)), ((5, 87), (0, 57, 1)), ((5, 101), (0, 112, 0)), ((5, 107), (0, 70, 2)), ((5, 111), (0, 72, 2)), ((5, 115), (0, 73, 3)), ((6, 79), (9, 0, 2)), ((5, 119), (0, 58, 2)), ((5, 122), (1, 352, 1)), ((5, 127), (0, 74, 5)), ((6, 84), (0, 43, 0)), ((6, 94), (0, 47, 6)), ((11, 345), (0, 54, 0)), ((11, 348), (0, 117, 0)), ((13, 244), (0, 188, 0)), ((11, 360), (0, 89, 0)), ((13, 248), (0, 189, 0)), ((11, 228), (0, 194, 1)), ((11, 366), (0, 51, 0)), ((13, 252), (0, 190, 0)), ((11, 363), (0, 141, 1)), ((10, 40), (0, 92, 1)), ((7, 38), (7, 0, 5)), ((13, 256), (0, 191, 0)), ((13, 117), (5, 323, 3)), ((13, 7), (0, 152, 1)), ((11, 104), (0, 15, 1)), ((2, 38), (0, 64, 0)), ((6, 56), (0, 119, 0)), ((6, 59), (0, 44, 0)), ((2, 43), (0, 124, 1)), ((9, 32), (9, 0, 2)), ((9, 38), (8, 0, 2)), ((9, 41), (0, 131, 0)), ((9, 44), (1, 135, 1)), ((9, 48), (1, 136, 1)), ((9, 51), (0, 132, 0)), ((9, 54), (1, 137, 1)), ((9, 57), (0, 133, 0)), ((9, 65), (0, 134, 1)), ((9, 101), (0, 355, 0)), ((16, 335), (0, 357, 0)), ((9, 106), (0, 356, 1)), ((16, 492), (0, 358, 0)), ((16, 495), (1, 360, 2)), ((17, 9), (1, 359, 2)), ((16, 1059), (1, 361, 3)), ((9, 60), (1, 138, 1)), ((2, 47), (0, 125, 0)), ((2, 54), (0, 18, 1)), ((2, 85), (0, 115, 0)), ((2, 76), (0, 17, 1)), ((2, 82), (0, 126, 0)), ((2, 91), (0, 131, 0)), ((2, 94), (0, 113, 0)), ((2, 97), (0, 114, 1)), ((2, 101), (0, 22, 2)), ((2, 130), (0, 127, 0)), ((2, 133), (0, 130, 0)), ((2, 105), (0, 120, 2)), ((2, 109), (0, 121, 0)), ((2, 67), (0, 19, 0)), ((2, 112), (0, 67, 1)), ((2, 70), (0, 20, 0)), ((2, 115), (0, 68, 1)), ((2, 73), (0, 21, 0)), ((2, 122), (0, 43, 0)), ((2, 127), (0, 24, 1)), ((2, 136), (0, 25, 0)), ((2, 145), (0, 128, 0)), ((2, 139), (0, 26, 1)), ((2, 148), (0, 27, 1)), ((2, 151), (0, 28, 1)), ((2, 154), (0, 29, 1)), ((2, 157), (0, 30, 1)), ((2, 160), (0, 31, 1)), ((2, 142), (0, 45, 1)), ((2, 166), (0, 129, 0)), ((2, 79), (0, 23, 1)), ((11, 108), (0, 16, 0)), ((11, 111), (0, 65, 1)), ((6, 60), (0, 122, 1)), ((8, 23), (7, 0, 5)), ((6, 64), (0, 46, 1)), ((4, 25), (7, 0, 5)), ((11, 114), (0, 140, 0)), ((10, 37), (0, 91, 0)), ((7, 19), (0, 66, 0)), ((13, 131), (5, 324, 3)), ((13, 15), (0, 154, 1)), ((11, 143), (0, 105, 1)), ((11, 146), (0, 96, 0)), ((11, 155), (0, 145, 0)), ((13, 134), (5, 325, 4)), ((13, 20), (0, 155, 2)), ((11, 161), (0, 198, 1)), ((11, 372), (0, 116, 1)), ((11, 164), (0, 118, 2)), ((11, 168), (0, 98, 1)), ((11, 171), (0, 100, 1)), ((11, 174), (0, 101, 1)), ((11, 184), (0, 71, 1)), ((6, 75), (0, 70, 2)), ((13, 138), (5, 326, 4)), ((13, 24), (0, 156, 2)), ((11, 187), (0, 199, 1)), ((13, 141), (5, 327, 4)), ((13, 27), (0, 157, 2)), ((11, 190), (0, 107, 2)), ((7, 48), (0, 93, 0)), ((11, 200), (0, 108, 2)), ((7, 54), (0, 94, 1)), ((7, 58), (0, 98, 1)), ((7, 61), (0, 70, 2)), ((7, 65), (0, 100, 1)), ((7, 68), (9, 0, 2)), ((7, 77), (0, 106, 0)), ((7, 80), (0, 72, 2)), ((7, 83), (0, 99, 2)), ((7, 89), (0, 73, 3)), ((7, 93), (0, 74, 5)), ((13, 148), (5, 328, 3)), ((13, 30), (0, 159, 1)), ((11, 206), (0, 97, 1)), ((13, 155), (5, 329, 5)), ((13, 34), (0, 161, 3)), ((11, 217), (0, 202, 1)), ((11, 220), (0, 99, 2)), ((13, 163), (5, 330, 4)), ((13, 38), (0, 163, 2)), ((11, 231), (0, 52, 2)), ((13, 166), (5, 331, 3)), ((13, 41), (0, 164, 1)), ((11, 238), (0, 59, 0)), ((5, 131), (0, 62, 3)), ((5, 134), (0, 60, 1)), ((5, 139), (0, 61, 3)), ((5, 143), (0, 118, 2)), ((13, 169), (5, 332, 5)), ((13, 44), (0, 165, 3)), ((11, 241), (1, 196, 1)), ((11, 247), (0, 53, 0)), ((11, 251), (1, 197, 2)), ((13, 173), (5, 333, 3)), ((13, 48), (0, 166, 1)), ((11, 255), (1, 352, 1)), ((11, 260), (0, 10, 1)), ((1, 33), (1, 354, 2)), ((1, 39), (0, 106, 0)), ((1, 45), (0, 12, 1)), ((1, 59), (0, 112, 0)), ((1, 64), (0, 118, 2)), ((1, 49), (0, 13, 3)), ((1, 68), (0, 49, 3)), ((1, 74), (0, 51, 0)), ((11, 263), (0, 11, 1)), ((13, 176), (5, 334, 3)), ((13, 51), (0, 167, 1)), ((11, 266), (0, 205, 2)), ((11, 269), (0, 1, 1)), ((0, 31), (0, 92, 1)), ((0, 35), (0, 5, 1)), ((0, 46), (0, 109, 0)), ((0, 39), (0, 105, 1)), ((13, 179), (5, 335, 4)), ((13, 54), (0, 168, 2)), ((11, 272), (8, 0, 2)), ((13, 182), (5, 336, 3)), ((13, 57), (0, 169, 1)), ((11, 275), (0, 2, 1)), ((0, 43), (0, 102, 1)), ((13, 185), (5, 337, 3)), ((13, 60), (0, 170, 1)), ((11, 278), (0, 3, 1)), ((0, 49), (0, 4, 2)), ((0, 65), (0, 97, 1)), ((0, 68), (0, 75, 1)), ((0, 59), (0, 112, 0)), ((13, 188), (5, 338, 4)), ((13, 63), (0, 171, 2)), ((11, 281), (0, 206, 1)), ((11, 284), (0, 77, 2)), ((6, 101), (0, 76, 1)), ((6, 98), (8, 0, 2)), ((13, 191), (5, 339, 4)), ((13, 66), (0, 172, 2)), ((11, 287), (0, 78, 2)), ((6, 104), (0, 77, 2)), ((13, 198), (5, 340, 4)), ((13, 69), (0, 174, 2)), ((11, 293), (0, 201, 1)), ((11, 296), (0, 203, 2)), ((11, 299), (0, 87, 1)), ((6, 121), (0, 86, 2)), ((11, 302), (0, 86, 2)), ((13, 201), (5, 341, 6)), ((13, 72), (0, 175, 4)), ((11, 305), (0, 146, 4)), ((13, 209), (5, 342, 5)), ((13, 76), (0, 177, 3)), ((11, 312), (0, 204, 1)), ((11, 315), (0, 33, 2)), ((3, 34), (9, 0, 2)), ((3, 40), (8, 0, 2)), ((3, 49), (0, 98, 1)), ((3, 55), (0, 148, 3)), ((3, 59), (0, 39, 1)), ((3, 96), (0, 112, 0)), ((3, 77), (0, 38, 2)), ((3, 83), (0, 70, 2)), ((3, 89), (0, 72, 2)), ((3, 63), (4, 197, 2)), ((3, 67), (0, 40, 2)), ((11, 317), (0, 34, 0)), ((11, 320), (0, 35, 0)), ((3, 70), (0, 34, 0)), ((3, 74), (0, 41, 2)), ((13, 212), (5, 343, 5)), ((13, 80), (0, 178, 3)), ((11, 323), (0, 36, 0)), ((3, 80), (0, 37, 1)), ((11, 326), (0, 37, 1)), ((13, 215), (5, 344, 6)), ((13, 83), (0, 179, 4)), ((11, 329), (0, 200, 1)), ((11, 332), (0, 80, 3)), ((6, 107), (0, 82, 5)), ((6, 111), (0, 83, 5)), ((11, 336), (0, 81, 3)), ((13, 219), (5, 345, 5)), ((13, 87), (0, 180, 3)), ((11, 339), (0, 6, 3)), ((0, 71), (0, 7, 0)), ((0, 90), (0, 8, 1)), ((0, 93), (0, 107, 2)), ((0, 97), (0, 108, 2)), ((0, 74), (1, 352, 1)), ((0, 79), (0, 93, 0)), ((0, 82), (8, 0, 2)), ((13, 222), (5, 346, 3)), ((13, 90), (0, 181, 1)), ((11, 342), (0, 70, 2)), ((13, 225), (5, 347, 4)), ((13, 93), (0, 182, 2)), ((13, 232), (5, 348, 3)), ((13, 96), (0, 184, 1)), ((13, 235), (5, 349, 3)), ((13, 99), (0, 185, 1)), ((11, 351), (0, 75, 1)), ((13, 238), (5, 350, 4)), ((13, 102), (0, 186, 2)), ((11, 354), (0, 79, 1)), ((13, 241), (5, 351, 3)), ((13, 105), (0, 187, 1)), ((11, 357), (0, 88, 1)), ((13, 111), (2, 207, 0)), ((12, 1), (6, 0, 0)), ((13, 123), (0, 208, 0)), ((13, 116), (0, 214, 5)), ((12, 178), (0, 215, 1)), ((13, 122), (0, 244, 1)), ((12, 331), (0, 209, 2)), ((12, 235), (0, 219, 0)), ((12, 188), (0, 216, 1)), ((12, 208), (1, 217, 1)), ((12, 212), (1, 218, 1)), ((12, 231), (0, 224, 0)), ((12, 335), (0, 243, 0)), ((12, 255), (0, 222, 0)), ((12, 224), (1, 221, 1)), ((12, 220), (1, 220, 8)), ((12, 300), (0, 239, 2)), ((12, 238), (0, 223, 1)), ((12, 304), (0, 240, 0)), ((12, 290), (0, 227, 2)), ((12, 307), (0, 241, 0)), ((12, 310), (0, 242, 0)), ((12, 325), (0, 238, 0)), ((12, 268), (0, 234, 0)), ((12, 262), (0, 225, 1)), ((12, 277), (0, 235, 1)), ((12, 265), (0, 232, 1)), ((12, 271), (0, 233, 0)), ((12, 252), (0, 228, 1)), ((12, 274), (0, 231, 1)), ((12, 247), (1, 229, 1)), ((12, 250), (1, 230, 1)), ((12, 281), (0, 236, 0)), ((12, 284), (0, 237, 0)), ((12, 328), (0, 226, 1)), ((12, 353), (0, 212, 2)), ((13, 130), (0, 245, 0)), ((13, 162), (0, 248, 0)), ((13, 133), (0, 262, 1)), ((12, 403), (1, 210, 3)), ((12, 380), (0, 252, 2)), ((12, 383), (0, 253, 1)), ((13, 137), (0, 267, 2)), ((12, 407), (0, 263, 1)), ((12, 410), (0, 265, 2)), ((12, 413), (0, 266, 1)), ((12, 386), (0, 255, 2)), ((13, 140), (0, 268, 2)), ((12, 416), (0, 264, 1)), ((13, 143), (0, 269, 2)), ((12, 419), (0, 259, 3)), ((12, 422), (0, 247, 1)), ((12, 425), (0, 246, 0)), ((12, 428), (0, 258, 3)), ((12, 377), (1, 211, 2)), ((12, 390), (0, 256, 2)), ((12, 393), (0, 257, 3)), ((12, 396), (0, 254, 5)), ((12, 371), (1, 213, 1)), ((12, 374), (0, 251, 1)), ((12, 367), (1, 250, 3)), ((13, 147), (0, 270, 1)), ((12, 431), (0, 261, 1)), ((12, 400), (0, 260, 1)), ((13, 150), (0, 271, 1)), ((13, 154), (0, 272, 1)), ((13, 158), (0, 273, 3)), ((13, 165), (0, 279, 2)), ((12, 451), (0, 278, 2)), ((12, 444), (0, 276, 1)), ((12, 437), (1, 274, 2)), ((12, 440), (0, 275, 3)), ((12, 447), (0, 277, 2)), ((13, 168), (0, 281, 1)), ((12, 460), (0, 280, 4)), ((13, 172), (0, 282, 3)), ((13, 251), (0, 283, 0)), ((13, 175), (0, 285, 1)), ((12, 464), (0, 284, 1)), ((13, 178), (0, 287, 1)), ((12, 467), (0, 249, 0)), ((12, 470), (0, 286, 1)), ((13, 181), (0, 288, 2)), ((13, 184), (0, 289, 1)), ((13, 187), (0, 291, 1)), ((12, 473), (0, 290, 2)), ((13, 190), (0, 294, 2)), ((12, 476), (0, 292, 1)), ((12, 479), (0, 293, 2)), ((13, 193), (0, 295, 2)), ((13, 197), (0, 297, 0)), ((12, 482), (0, 296, 1)), ((13, 200), (0, 298, 2)), ((13, 204), (0, 299, 4)), ((13, 208), (0, 300, 0)), ((13, 211), (0, 305, 3)), ((12, 485), (0, 304, 1)), ((12, 488), (1, 301, 2)), ((12, 491), (0, 302, 3)), ((12, 494), (0, 303, 1)), ((13, 214), (0, 306, 3)), ((13, 218), (0, 308, 4)), ((12, 497), (0, 307, 5)), ((13, 221), (0, 311, 3)), ((12, 508), (0, 310, 0)), ((12, 505), (0, 309, 1)), ((13, 224), (0, 312, 1)), ((13, 227), (0, 313, 2)), ((13, 231), (0, 315, 0)), ((12, 520), (0, 314, 1)), ((13, 234), (0, 316, 1)), ((13, 237), (0, 317, 1)), ((13, 240), (0, 318, 2)), ((13, 243), (0, 319, 1)), ((13, 247), (0, 320, 0)), ((13, 255), (0, 321, 0)), ((13, 260), (0, 322, 0))]
def sa_pK : List ((Nat × Nat) × Int32) := [((14, 265), (1431655765 : Int32)), ((14, 266), (858993459 : Int32)), ((14, 267), (252645135 : Int32)), ((2, 165), (2147483647 : Int32)), ((5, 142), (2147483647 : Int32)), ((0, 100), (1103515245 : Int32)), ((12, 450), (99999 : Int32)), ((12, 504), (1103515245 : Int32))]
def sa_pKL : List ((Nat × Nat) × Int64) := [((5, 137), (-1 : Int64)), ((12, 218), (96 : Int64))]
def sa_pStr : List ((Nat × Nat) × (Nat × String)) := [((9, 63), (0, "creature")), ((9, 69), (1, "trick")), ((9, 71), (2, "hunter")), ((9, 73), (3, "tale")), ((9, 75), (4, "coins")), ((9, 77), (5, "rival")), ((9, 79), (6, "bound")), ((9, 81), (7, "or")), ((9, 83), (8, "and")), ((9, 85), (9, "not")), ((9, 87), (10, "cord")), ((9, 91), (11, "strength")), ((9, 93), (12, "wary")), ((9, 95), (13, "beliefs")), ((9, 97), (14, "price")), ((9, 99), (15, "help"))]
def sa_pN : List ((Nat × Nat) × Nat) := [((13, 8), 11), ((11, 24), 6), ((6, 9), 8), ((6, 42), 4), ((11, 34), 2), ((2, 25), 9), ((11, 43), 10), ((10, 9), 7), ((11, 59), 5), ((11, 66), 1), ((11, 79), 3), ((11, 88), 0), ((0, 23), 7), ((13, 109), 12)]
/-- (own, new's index): the exception's number, its constructor's index -/
def sa_pE : List ((Nat × Nat) × (Nat × Nat)) := [((13, 13), (1, 0)), ((11, 101), (1, 103)), ((13, 18), (0, 0)), ((11, 158), (0, 160))]
def sa_pS : List ((Nat × Nat) × Value) := [((6, 11), .ref 100001), ((6, 24), .ref 100002), ((6, 30), .ref 100003), ((6, 36), .ref 100004), ((16, 38), .int 1), ((16, 1053), .ref 100005)]
def sa_pX : List ((Nat × Nat) × Nat) := [((16, 9), 0), ((16, 15), 1)]
end
section
/-! ===== the abstract machine: memory over abstract locations, one method's frame, calls by a relation ===== -/
/-- ((locations, cells made, slots made, frozen), shapes (kind, length), ints, longs, references) -/
abbrev sa_Mem : Type := (Nat × Nat × Nat × Bool) × (Nat → Nat × Nat) × (Nat → Nat → Int32) × (Nat → Nat → Int64) × (Nat → Nat → Option Nat)
abbrev sa_Out : Type := (Option Value ⊕ Nat) × sa_Mem
abbrev sa_mN (m : sa_Mem) : Nat := m.1.1
abbrev sa_mC (m : sa_Mem) : Nat := m.1.2.1
abbrev sa_mS (m : sa_Mem) : Nat := m.1.2.2.1
abbrev sa_mF (m : sa_Mem) : Bool := m.1.2.2.2
abbrev sa_sh (m : sa_Mem) : Nat → Nat × Nat := m.2.1
abbrev sa_mI (m : sa_Mem) : Nat → Nat → Int32 := m.2.2.1
abbrev sa_mJ (m : sa_Mem) : Nat → Nat → Int64 := m.2.2.2.1
abbrev sa_mR (m : sa_Mem) : Nat → Nat → Option Nat := m.2.2.2.2
def sa_setI (m : sa_Mem) (k : Nat) (f : Nat → Int32) : sa_Mem := (m.1, m.2.1, va_up m.2.2.1 k f, m.2.2.2.1, m.2.2.2.2)
def sa_setJ (m : sa_Mem) (k : Nat) (f : Nat → Int64) : sa_Mem := (m.1, m.2.1, m.2.2.1, va_up m.2.2.2.1 k f, m.2.2.2.2)
def sa_setR (m : sa_Mem) (k : Nat) (f : Nat → Option Nat) : sa_Mem := (m.1, m.2.1, m.2.2.1, m.2.2.2.1, va_up m.2.2.2.2 k f)
/-- a new cell of a kind (below 100: an object of that class; 100 byte, 101 int, 102 long, 103 boolean arrays) -/
def sa_alloc (m : sa_Mem) (kind len slots : Nat) : sa_Mem := ((sa_mN m + 1, sa_mC m + 1, sa_mS m + slots, sa_mF m), va_up m.2.1 (sa_mN m) (kind, len), va_up m.2.2.1 (sa_mN m) (fun _ => 0), va_up m.2.2.2.1 (sa_mN m) (fun _ => 0), va_up m.2.2.2.2 (sa_mN m) (fun _ => none))
/-- an exception has been made: no abstract location, nothing else is made behind it -/
def sa_thrown (m : sa_Mem) : sa_Mem := ((sa_mN m, sa_mC m + 1, sa_mS m + 6, true), m.2)
def sa_ty (ci j : Nat) : FieldType := (sa_tys.getD ci (fun _ => .int)) j
def sa_so (t : FieldType) : Nat := match t with
  | .long => 1
  | .object _ => 2
  | .array _ => 2
  | .float => 3
  | .double => 3
  | _ => 0
def sa_gf (m : sa_Mem) (k ci j : Nat) : Value := match sa_so (sa_ty ci j) with
  | 0 => .int (sa_mI m k j)
  | 1 => .long (sa_mJ m k j)
  | _ => va_rf (sa_mR m k j)
def sa_pf (m : sa_Mem) (k ci j : Nat) (v : Value) (m' : sa_Mem) : Prop := match v with
  | .int x => sa_so (sa_ty ci j) = 0 ∧ narrow (sa_ty ci j) (.int x) = .int x ∧ m' = sa_setI m k (upd (sa_mI m k) j x)
  | .long x => sa_ty ci j = .long ∧ m' = sa_setJ m k (vp_updL (sa_mJ m k) j x)
  | .ref a => sa_so (sa_ty ci j) = 2 ∧ a ≠ 100005 ∧ m' = sa_setR m k (va_up (sa_mR m k) j (some a))
  | _ => False
/-- locals: a value a place; .retAddr 0 where nothing is known -/
abbrev sa_no : Value := .retAddr 0
def sa_kill (lo : List Value) (i : Nat) : List Value := match i with
  | 0 => lo
  | j + 1 => match lo[j]? with
    | some v => if v.category = 2 then lo.set j sa_no else lo
    | none => lo
def sa_st1 (lo : List Value) (i : Nat) (v : Value) : List Value := (sa_kill lo i).set i v
def sa_st2 (lo : List Value) (i : Nat) (v : Value) : List Value := ((sa_kill lo i).set i v).set (i + 1) sa_no
def sa_ldI (lo st : List Value) (k : Nat) : Option (List Value × List Value) := match lo[k]? with
  | some (.int x) => some (lo, .int x :: st)
  | _ => none
def sa_ldL (lo st : List Value) (k : Nat) : Option (List Value × List Value) := match lo[k]? with
  | some (.long x) => some (lo, .long x :: st)
  | _ => none
def sa_ldA (lo st : List Value) (k : Nat) : Option (List Value × List Value) := match lo[k]? with
  | some (.ref x) => if x = 100005 then none else some (lo, .ref x :: st)
  | _ => none
def sa_stI (lo st : List Value) (k : Nat) : Option (List Value × List Value) := match st with
  | .int x :: r => if k < lo.length then some (sa_st1 lo k (.int x), r) else none
  | _ => none
def sa_stL (lo st : List Value) (k : Nat) : Option (List Value × List Value) := match st with
  | .long x :: r => if k + 1 < lo.length then some (sa_st2 lo k (.long x), r) else none
  | _ => none
def sa_stA (lo st : List Value) (k : Nat) : Option (List Value × List Value) := match st with
  | .ref x :: r => if x = 100005 then none else if k < lo.length then some (sa_st1 lo k (.ref x), r) else none
  | _ => none
def sa_bi (lo st : List Value) (g : Int32 → Int32 → Int32) : Option (List Value × List Value) := match st with
  | .int y :: .int x :: r => some (lo, .int (g x y) :: r)
  | _ => none
def sa_bl (lo st : List Value) (g : Int64 → Int64 → Int64) : Option (List Value × List Value) := match st with
  | .long y :: .long x :: r => some (lo, .long (g x y) :: r)
  | _ => none
def sa_isn (v : Value) : Bool := match v with
  | .retAddr _ => true
  | _ => false
/-- instructions that touch locals and stack alone -/
def sa_pu (i : Instr) (lo st : List Value) : Option (List Value × List Value) := match i with
  | .iconst n => some (lo, .int (Int32.ofInt n) :: st)
  | .bipush n => some (lo, .int (Int8.ofInt n).toInt32 :: st)
  | .sipush n => some (lo, .int (Int16.ofInt n).toInt32 :: st)
  | .lconst n => some (lo, .long (Int64.ofNat (n : Nat)) :: st)
  | .iload_n k => sa_ldI lo st k
  | .iload k => sa_ldI lo st k
  | .lload_n k => sa_ldL lo st k
  | .lload k => sa_ldL lo st k
  | .aload_n k => sa_ldA lo st k
  | .aload k => sa_ldA lo st k
  | .istore_n k => sa_stI lo st k
  | .istore k => sa_stI lo st k
  | .lstore_n k => sa_stL lo st k
  | .lstore k => sa_stL lo st k
  | .astore_n k => sa_stA lo st k
  | .astore k => sa_stA lo st k
  | .iinc k n => match lo[k]? with
    | some (.int x) => some (sa_st1 lo k (.int (x + Int32.ofInt n)), st)
    | _ => none
  | .iadd => sa_bi lo st (fun x y => x + y)
  | .isub => sa_bi lo st (fun x y => x - y)
  | .imul => sa_bi lo st (fun x y => x * y)
  | .iand => sa_bi lo st (fun x y => x &&& y)
  | .ior => sa_bi lo st (fun x y => x ||| y)
  | .ixor => sa_bi lo st (fun x y => x ^^^ y)
  | .ishl => sa_bi lo st (fun x y => x <<< (y &&& 31))
  | .ishr => sa_bi lo st (fun x y => x >>> (y &&& 31))
  | .iushr => sa_bi lo st (fun x y => (x.toUInt32 >>> (y.toUInt32 &&& Int32.toUInt32 31)).toInt32)
  | .ladd => sa_bl lo st (fun x y => x + y)
  | .lsub => sa_bl lo st (fun x y => x - y)
  | .land => sa_bl lo st (fun x y => x &&& y)
  | .lor => sa_bl lo st (fun x y => x ||| y)
  | .lxor => sa_bl lo st (fun x y => x ^^^ y)
  | .lshl => match st with
    | .int y :: .long x :: r => some (lo, .long (x <<< (y.toInt64 &&& 63)) :: r)
    | _ => none
  | .lshr => match st with
    | .int y :: .long x :: r => some (lo, .long (x >>> (y.toInt64 &&& 63)) :: r)
    | _ => none
  | .lcmp => match st with
    | .long y :: .long x :: r => some (lo, .int (lg_cmp x y) :: r)
    | _ => none
  | .i2l => match st with
    | .int x :: r => some (lo, .long x.toInt64 :: r)
    | _ => none
  | .l2i => match st with
    | .long x :: r => some (lo, .int x.toInt32 :: r)
    | _ => none
  | .i2b => match st with
    | .int x :: r => some (lo, .int x.toInt8.toInt32 :: r)
    | _ => none
  | .i2c => match st with
    | .int x :: r => some (lo, .int (x.toUInt32 % 65536).toInt32 :: r)
    | _ => none
  | .dup => match st with
    | v :: r => if v.category = 1 then some (lo, v :: v :: r) else none
    | _ => none
  | .pop => match st with
    | v :: r => if v.category = 1 then some (lo, r) else none
    | _ => none
  | .dup_x1 => match st with
    | v :: w :: r => if v.category = 1 ∧ w.category = 1 then some (lo, v :: w :: v :: r) else none
    | _ => none
  | .dup2 => match st with
    | v :: w :: r => if v.category = 1 ∧ w.category = 1 then some (lo, v :: w :: v :: w :: r) else none
    | _ => none
  | _ => none
/-- the constants' texts -/
def sa_txt : List (List Int32) := sa_pStr.map (fun q => q.2.2.toList.map (fun c => Int32.ofNat c.toNat))
def sa_lim : List (List Int32) := [[60, 63, 9, 99, 9], [63, 63, 63, 63, 20, 20], [60, 999], [1023]]
/-- an array outside: the script (its length, its ints), the limits, the texts' bytes -/
def sa_xa (X : Nat × (Nat → Int32)) (k : Nat) : Option (Nat × Nat × (Nat → Int32)) :=
  if k = 100000 then some (101, X.1, X.2)
  else if 100001 ≤ k ∧ k < 100005 then some (101, (sa_lim.getD (k - 100001) []).length, fun j => (sa_lim.getD (k - 100001) []).getD j 0)
  else if 100200 ≤ k ∧ k < 100200 + sa_txt.length then some (100, (sa_txt.getD (k - 100200) []).length, fun j => (sa_txt.getD (k - 100200) []).getD j 0)
  else none
def sa_arr (X : Nat × (Nat → Int32)) (m : sa_Mem) (k : Nat) : Option (Nat × Nat × (Nat → Int32)) :=
  if k < sa_mN m then (if 100 ≤ (sa_sh m k).1 then some ((sa_sh m k).1, (sa_sh m k).2, sa_mI m k) else none) else sa_xa X k
def sa_at (k : Nat) (ty : ArrayType) : Option Nat := match ty with
  | .byte => some 100
  | .int => some 101
  | .long => some 102
  | .boolean => some 103
  | _ => none
def sa_nF (ci : Nat) : Nat := ((vwCl[ci]?).map (fun q => q.2.2)).getD 0
def sa_fin (ci j : Nat) : Bool := ((vwCl[ci]?).map (fun q => (q.2.1 j).2.2.2)).getD true
/-- instructions that touch the memory -/
def sa_he (X : Nat × (Nat → Int32)) (own : Nat) (ini : Prop) (i : Instr) (st : List Value) (m : sa_Mem) (K : List Value → sa_Mem → Prop) : Prop := match i with
  | .getfield idx => ∃ k r, st = .ref k :: r ∧ ((∃ ci j b, sa_pF.lookup (own, idx) = some (ci, j, b) ∧ k < sa_mN m ∧ (sa_sh m k).1 = ci ∧ K (sa_gf m k ci j :: r) m) ∨
      (∃ t, sa_pX.lookup (own, idx) = some t ∧ 100100 ≤ k ∧ k < 100100 + sa_txt.length ∧ K ((if t = 0 then .ref (k + 100) else .int 0) :: r) m))
  | .putfield idx => ∃ v k r ci j m', st = v :: .ref k :: r ∧ sa_pF.lookup (own, idx) = some (ci, j, false) ∧ k < sa_mN m ∧ (sa_sh m k).1 = ci ∧ (sa_fin ci j = true → ini ∧ ci = own) ∧ sa_pf m k ci j v m' ∧ K r m'
  | .iaload => ∃ i k r n f, st = .int i :: .ref k :: r ∧ sa_arr X m k = some (101, n, f) ∧ vp_in i n ∧ K (.int (f i.toNatClampNeg) :: r) m
  | .baload => ∃ i k r n f, st = .int i :: .ref k :: r ∧ (sa_arr X m k = some (100, n, f) ∨ (k < sa_mN m ∧ sa_arr X m k = some (103, n, f))) ∧ vp_in i n ∧ K (.int (f i.toNatClampNeg) :: r) m
  | .laload => ∃ i k r, st = .int i :: .ref k :: r ∧ k < sa_mN m ∧ (sa_sh m k).1 = 102 ∧ vp_in i (sa_sh m k).2 ∧ K (.long (sa_mJ m k i.toNatClampNeg) :: r) m
  | .iastore => ∃ x i k r, st = .int x :: .int i :: .ref k :: r ∧ k < sa_mN m ∧ (sa_sh m k).1 = 101 ∧ vp_in i (sa_sh m k).2 ∧ K r (sa_setI m k (upd (sa_mI m k) i.toNatClampNeg x))
  | .bastore => ∃ x i k r, st = .int x :: .int i :: .ref k :: r ∧ k < sa_mN m ∧ vp_in i (sa_sh m k).2 ∧ (((sa_sh m k).1 = 100 ∧ K r (sa_setI m k (upd (sa_mI m k) i.toNatClampNeg (vp_nar .byte x)))) ∨ ((sa_sh m k).1 = 103 ∧ K r (sa_setI m k (upd (sa_mI m k) i.toNatClampNeg (vp_nar .boolean x)))))
  | .lastore => ∃ x i k r, st = .long x :: .int i :: .ref k :: r ∧ k < sa_mN m ∧ (sa_sh m k).1 = 102 ∧ vp_in i (sa_sh m k).2 ∧ K r (sa_setJ m k (vp_updL (sa_mJ m k) i.toNatClampNeg x))
  | .arraylength => ∃ k r q n f, st = .ref k :: r ∧ sa_arr X m k = some (q, n, f) ∧ q < 104 ∧ K (.int (Int32.ofNat n) :: r) m
  | .new idx => ∃ ci, sa_pN.lookup (own, idx) = some ci ∧ sa_mF m = false ∧ sa_mN m < 100000 ∧ K (.ref (sa_mN m) :: st) (sa_alloc m ci 0 (sa_nF ci))
  | .newarray ty => ∃ n r q, st = .int n :: r ∧ sa_at 0 ty = some q ∧ ¬ n < 0 ∧ n.toNatClampNeg ≤ 65536 ∧ sa_mF m = false ∧ sa_mN m < 100000 ∧ K (.ref (sa_mN m) :: r) (sa_alloc m q n.toNatClampNeg n.toNatClampNeg)
  | .getstatic idx => ∃ v, sa_pS.lookup (own, idx) = some v ∧ K (v :: st) m
  | .ldc idx => (∃ v, sa_pK.lookup (own, idx) = some v ∧ K (.int v :: st) m) ∨ (∃ t tx, sa_pStr.lookup (own, idx) = some (t, tx) ∧ K (.ref (100100 + t) :: st) m)
  | .ldc_w idx => ∃ v, sa_pK.lookup (own, idx) = some v ∧ K (.int v :: st) m
  | .ldc2_w idx => ∃ v, sa_pKL.lookup (own, idx) = some v ∧ K (.long v :: st) m
  | .idiv => ∃ x y r, st = .int y :: .int x :: r ∧ ¬ y = 0 ∧ K (.int (x / y) :: r) m
  | .irem => ∃ x y r, st = .int y :: .int x :: r ∧ ¬ y = 0 ∧ K (.int (x - x / y * y) :: r) m
  | _ => False
def sa_cmp (c : ClassFile.Cond) (x y : Int32) : Prop := match c with
  | .eq => x = y
  | .ne => ¬ x = y
  | .lt => x < y
  | .ge => y ≤ x
  | .gt => y < x
  | .le => x ≤ y
/-- jumps -/
def sa_ct (i : Instr) (pc : Nat) (st : List Value) (K : Nat → List Value → Prop) : Prop := match i with
  | .goto off => ∃ t : Nat, (pc : Int) + off = (t : Int) ∧ K t st
  | .ifCond c off => ∃ (x : Int32) (r : List Value) (t : Nat), st = .int x :: r ∧ (pc : Int) + off = (t : Int) ∧ (sa_cmp c x 0 → K t r) ∧ (¬ sa_cmp c x 0 → K (pc + 3) r)
  | .if_icmp c off => ∃ (x y : Int32) (r : List Value) (t : Nat), st = .int y :: .int x :: r ∧ (pc : Int) + off = (t : Int) ∧ (sa_cmp c x y → K t r) ∧ (¬ sa_cmp c x y → K (pc + 3) r)
  | .tableswitch d lo hi offs => ∃ (x : Int32) (r : List Value), st = .int x :: r ∧ ((x.toInt < lo ∨ hi < x.toInt) → ∃ t : Nat, (pc : Int) + d = (t : Int) ∧ K t r) ∧ (¬ x.toInt < lo → ¬ hi < x.toInt → ∃ (off : Int) (t : Nat), offs[(x.toInt - lo).toNat]? = some off ∧ (pc : Int) + off = (t : Int) ∧ K t r)
  | _ => False
/-- ends -/
def sa_rt (e : sa_Me) (i : Instr) (st : List Value) (m : sa_Mem) (o : sa_Out) : Prop := match i with
  | .ireturn => ∃ v ty, st = [.int v] ∧ e.2.2.2.2.1 = some ty ∧ sa_so ty = 0 ∧ narrow ty (.int v) = .int v ∧ o = (.inl (some (.int v)), m)
  | .lreturn => ∃ v, st = [.long v] ∧ e.2.2.2.2.1 = some .long ∧ o = (.inl (some (.long v)), m)
  | .return_ => st = [] ∧ e.2.2.2.2.1 = none ∧ o = (.inl none, m)
  | _ => False
def sa_lk (e : sa_Me) (pc : Nat) : Option (Instr × Nat) := e.2.2.2.2.2.2.lookup pc
/-- 'throw new E()' -/
def sa_th (e : sa_Me) (pc : Nat) (i : Instr) (m : sa_Mem) (o : sa_Out) : Prop := match i with
  | .new idx => ∃ q ic, sa_pE.lookup (e.1, idx) = some (q, ic) ∧ e.2.2.2.2.2.1 = none ∧ sa_lk e (pc + 3) = some (.dup, 1) ∧ sa_lk e (pc + 4) = some (.invokespecial ic, 3) ∧ sa_lk e (pc + 7) = some (.athrow, 1) ∧ o = (.inr q, sa_thrown m)
  | _ => False
/-- the handler of exception q at pc: the row's place -/
def sa_hd (own pc q : Nat) : List (Nat × Nat × Nat × Nat) → Option Nat
  | [] => none
  | h :: r => if h.1 ≤ pc ∧ pc < h.2.1 ∧ (sa_pE.lookup (own, h.2.2.2)).map (fun z => z.1) = some q then some h.2.2.1 else sa_hd own pc q r
/-- behind a call -/
def sa_af (e : sa_Me) (pc : Nat) (lo r : List Value) (o' : sa_Out) (o : sa_Out) (K : Nat → List Value → List Value → sa_Mem → Prop) : Prop := match o'.1 with
  | .inl (some v) => K (pc + 3) lo (v :: r) o'.2
  | .inl none => K (pc + 3) lo r o'.2
  | .inr q => match e.2.2.2.2.2.1 with
    | none => o = (.inr q, o'.2)
    | some hh => ∃ hp k len, sa_hd e.1 pc q hh = some hp ∧ k < lo.length ∧ (∀ x ∈ lo, x.category = 1) ∧ (sa_lk e hp = some (.astore k, len) ∧ len = 2 ∨ (∃ j : Fin 4, (j : Nat) = k ∧ sa_lk e hp = some (.astore_n j, len) ∧ len = 1)) ∧ K (hp + len) (lo.set k sa_no) [] o'.2
/-- calls -/
def sa_iv (C : Nat → List Value → sa_Mem → sa_Out → Prop) (e : sa_Me) (pc : Nat) (i : Instr) (lo st : List Value) (m : sa_Mem) (o : sa_Out) (K : Nat → List Value → List Value → sa_Mem → Prop) : Prop := match i with
  | .invokevirtual idx => ∃ mi n As b r o', sa_pI.lookup (e.1, idx) = some (0, mi, n) ∧ st = As.reverse ++ .ref b :: r ∧ As.length = n ∧ (r.map (fun v => v.category)).sum ≤ 8 ∧
      ((b < sa_mN m ∧ (sa_M[mi]?).map (fun z => z.1) = some (sa_sh m b).1) ∨ (100100 ≤ b ∧ b < 100100 + sa_txt.length ∧ (sa_M[mi]?).map (fun z => z.1) = some 16)) ∧ C mi (.ref b :: As) m o' ∧ sa_af e pc lo r o' o K
  | .invokestatic idx => (∃ kk mi n As r o', sa_pI.lookup (e.1, idx) = some (kk, mi, n) ∧ (kk = 1 ∨ kk = 4 ∨ kk = 5) ∧ st = As.reverse ++ r ∧ As.length = n ∧ (r.map (fun v => v.category)).sum ≤ 8 ∧ C mi As m o' ∧ sa_af e pc lo r o' o K) ∨
      (∃ x y r, sa_pI.lookup (e.1, idx) = some (8, 0, 2) ∧ st = .int y :: .int x :: r ∧ (r.map (fun v => v.category)).sum ≤ 8 ∧ K (pc + 3) lo (.int (if x < y then y else x) :: r) m) ∨
      (∃ x y r, sa_pI.lookup (e.1, idx) = some (9, 0, 2) ∧ st = .int y :: .int x :: r ∧ (r.map (fun v => v.category)).sum ≤ 8 ∧ K (pc + 3) lo (.int (if y < x then y else x) :: r) m) ∨
      (∃ (a b : Nat) (sp dp n : Int32) (r : List Value), sa_pI.lookup (e.1, idx) = some (7, 0, 5) ∧ st = .int n :: .int dp :: .ref b :: .int sp :: .ref a :: r ∧ (r.map (fun v => v.category)).sum ≤ 8 ∧ a < sa_mN m ∧ b < sa_mN m ∧ (sa_sh m a).1 = 101 ∧ (sa_sh m b).1 = 101 ∧ ¬ sp < 0 ∧ ¬ dp < 0 ∧ ¬ n < 0 ∧ sp.toNatClampNeg + n.toNatClampNeg ≤ (sa_sh m a).2 ∧ dp.toNatClampNeg + n.toNatClampNeg ≤ (sa_sh m b).2 ∧
        K (pc + 3) lo r (sa_setI m b (va_cpy (sa_mI m a) (sa_mI m b) sp.toNatClampNeg dp.toNatClampNeg n.toNatClampNeg)))
  | .invokespecial idx => (∃ kk mi n As b r o', sa_pI.lookup (e.1, idx) = some (kk, mi, n) ∧ (kk = 2 ∨ kk = 3) ∧ st = As.reverse ++ .ref b :: r ∧ As.length = n ∧ b < 100000 ∧ (r.map (fun v => v.category)).sum ≤ 8 ∧ C mi (.ref b :: As) m o' ∧ sa_af e pc lo r o' o K) ∨
      (∃ b r, sa_pI.lookup (e.1, idx) = some (6, 0, 0) ∧ st = .ref b :: r ∧ b < 100000 ∧ (r.map (fun v => v.category)).sum ≤ 8 ∧ K (pc + 3) lo r m)
  | _ => False
/-- from a frame of method mi to its end, in at most so many steps -/
def sa_run (X : Nat × (Nat → Int32)) (C : Nat → List Value → sa_Mem → sa_Out → Prop) (mi : Nat) : Nat → Nat → List Value → List Value → sa_Mem → sa_Out → Prop
  | 0, _, _, _, _, _ => False
  | f + 1, pc, lo, st, m, o => ∃ e i len, sa_Ma[mi]? = some e ∧ sa_lk e pc = some (i, len) ∧
      ((∃ lo' st', sa_pu i lo st = some (lo', st') ∧ sa_run X C mi f (pc + len) lo' st' m o) ∨
        sa_he X e.1 (e.2.1.name = "<init>") i st m (fun st' m' => sa_run X C mi f (pc + len) lo st' m' o) ∨
        sa_ct i pc st (fun pc' st' => sa_run X C mi f pc' lo st' m o) ∨
        sa_rt e i st m o ∨ sa_th e pc i m o ∨
        sa_iv C e pc i lo st m o (fun pc' lo' st' m' => sa_run X C mi f pc' lo' st' m' o))
def sa_lo : List Value → List Value
  | [] => []
  | .long x :: r => .long x :: sa_no :: sa_lo r
  | v :: r => v :: sa_lo r
def sa_en (args : List Value) (n : Nat) : List Value := sa_lo args ++ List.replicate (n - (sa_lo args).length) sa_no
/-- a method's call, at most d deep -/
def sa_Ex (X : Nat × (Nat → Int32)) : Nat → Nat → List Value → sa_Mem → sa_Out → Prop
  | 0, _, _, _, _ => False
  | d + 1, mi, args, m, o => ∃ f e, sa_M[mi]? = some e ∧ (sa_lo args).length ≤ e.2.2.2.1 ∧ (∀ v ∈ args, sa_isn v = false) ∧ sa_run X (sa_Ex X d) mi f 0 (sa_en args e.2.2.2.1) [] m o
/-- the pure judgement: from this frame the method comes to an end with Q -/
def sa_W (X : Nat × (Nat → Int32)) (C : Nat → List Value → sa_Mem → sa_Out → Prop) (mi pc : Nat) (lo st : List Value) (m : sa_Mem) (Q : sa_Out → Prop) : Prop := ∃ f o, sa_run X C mi f pc lo st m o ∧ Q o
end
section
/-! ===== soundness 1: locals and stack ===== -/
def sa_cv (av : Nat → Value) (v : Value) : Value := match v with
  | .ref k => av k
  | v => v
def sa_lv (av : Nat → Value) (lo : List Value) : List (Nat × Value) := lo.zipIdx.filterMap (fun q => if sa_isn q.1 then none else some (q.2, sa_cv av q.1))
theorem sa_lv_mem {av : Nat → Value} {lo : List Value} {i : Nat} {w : Value} : (i, w) ∈ sa_lv av lo ↔ ∃ v, lo[i]? = some v ∧ sa_isn v = false ∧ w = sa_cv av v := by
  unfold sa_lv
  rw [List.mem_filterMap]
  constructor
  · rintro ⟨⟨v, j⟩, h1, h2⟩
    rw [List.mem_zipIdx_iff_getElem?] at h1
    by_cases hv : sa_isn v = true
    · simp [hv] at h2
    · have hv2 : sa_isn v = false := by simpa using hv
      simp [hv2] at h2
      obtain ⟨rfl, rfl⟩ := h2
      exact ⟨v, h1, hv2, rfl⟩
  · rintro ⟨v, h1, h2, rfl⟩
    exact ⟨(v, i), List.mem_zipIdx_iff_getElem?.mpr h1, by simp [h2]⟩
def sa_LR (av : Nat → Value) (lo : List Value) (ls : Array Slot) : Prop := lv_has ls lo.length (sa_lv av lo)
theorem sa_LR.get {av : Nat → Value} {lo : List Value} {ls : Array Slot} (h : sa_LR av lo ls) {i : Nat} {v : Value} (hv : lo[i]? = some v) (hn : sa_isn v = false) : ls[i]? = some (.val (sa_cv av v)) := h.2.2 (i, _) (sa_lv_mem.mpr ⟨v, hv, hn, rfl⟩)
theorem sa_cv_cat {av : Nat → Value} (hav : ∀ k, (av k).category = 1) (v : Value) : (sa_cv av v).category = v.category := by
  cases v with
  | ref k => exact hav k
  | _ => rfl
theorem sa_kill_len (lo : List Value) (i : Nat) : (sa_kill lo i).length = lo.length := by
  unfold sa_kill
  split
  · rfl
  · split
    · split
      · simp
      · rfl
    · rfl
theorem sa_kill_get {lo : List Value} {i j : Nat} {v : Value} (h : (sa_kill lo i)[j]? = some v) (hn : sa_isn v = false) : lo[j]? = some v ∧ ¬ (j + 1 = i ∧ v.category = 2) := by
  unfold sa_kill at h
  split at h
  · exact ⟨h, fun q => by omega⟩
  · rename_i k
    split at h
    · rename_i u hu
      split at h
      · rename_i hc
        by_cases hj : j = k
        · subst hj
          have hl := (List.getElem?_eq_some_iff.mp hu).1
          rw [List.getElem?_set_self hl] at h
          cases h
          cases hn
        · rw [List.getElem?_set_ne (Ne.symm hj)] at h
          exact ⟨h, fun q => hj (by omega)⟩
      · rename_i hc
        refine ⟨h, fun q => ?_⟩
        have hj : j = k := by omega
        subst hj
        rw [hu] at h
        cases h
        exact hc q.2
    · rename_i hu
      refine ⟨h, fun q => ?_⟩
      have hj : j = k := by omega
      subst hj
      rw [hu] at h
      cases h
theorem sa_LR.st1 {av : Nat → Value} {lo : List Value} {ls' : Array Slot} {i : Nat} {w : Value} (hav : ∀ k, (av k).category = 1) (hi : i < lo.length)
    (h : lv_has ls' lo.length ((i, sa_cv av w) :: (sa_lv av lo).filter (fun q => !(q.1 == i) && !(q.1 + 1 == i && q.2.category == 2)))) : sa_LR av (sa_st1 lo i w) ls' := by
  have hlen : (sa_st1 lo i w).length = lo.length := by unfold sa_st1; rw [List.length_set, sa_kill_len]
  refine ⟨by rw [hlen]; exact h.1, h.2.1, ?_⟩
  rintro ⟨j, u⟩ hq
  obtain ⟨v, h1, h2, rfl⟩ := sa_lv_mem.mp hq
  refine h.2.2 (j, sa_cv av v) ?_
  unfold sa_st1 at h1
  by_cases hj : j = i
  · subst hj
    rw [List.getElem?_set_self (by rw [sa_kill_len]; exact hi)] at h1
    cases h1
    exact List.mem_cons_self
  · rw [List.getElem?_set_ne (Ne.symm hj)] at h1
    obtain ⟨h3, h4⟩ := sa_kill_get h1 h2
    refine List.mem_cons_of_mem _ (List.mem_filter.mpr ⟨sa_lv_mem.mpr ⟨v, h3, h2, rfl⟩, ?_⟩)
    simp only [Bool.and_eq_true, Bool.not_eq_true', beq_eq_false_iff_ne, ne_eq, Bool.and_eq_false_iff, sa_cv_cat hav]
    refine ⟨hj, ?_⟩
    by_cases h5 : j + 1 = i
    · exact Or.inr (fun h6 => h4 ⟨h5, h6⟩)
    · exact Or.inl h5
theorem sa_LR.st2 {av : Nat → Value} {lo : List Value} {ls' : Array Slot} {i : Nat} {w : Value} (hav : ∀ k, (av k).category = 1) (hi : i + 1 < lo.length)
    (h : lv_has ls' lo.length ((i, sa_cv av w) :: (sa_lv av lo).filter (fun q => !(q.1 == i) && (!(q.1 == i + 1) && !(q.1 + 1 == i && q.2.category == 2))))) : sa_LR av (sa_st2 lo i w) ls' := by
  have hlen : (sa_st2 lo i w).length = lo.length := by unfold sa_st2; rw [List.length_set, List.length_set, sa_kill_len]
  refine ⟨by rw [hlen]; exact h.1, h.2.1, ?_⟩
  rintro ⟨j, u⟩ hq
  obtain ⟨v, h1, h2, rfl⟩ := sa_lv_mem.mp hq
  refine h.2.2 (j, sa_cv av v) ?_
  unfold sa_st2 at h1
  by_cases hj1 : j = i + 1
  · subst hj1
    rw [List.getElem?_set_self (by rw [List.length_set, sa_kill_len]; exact hi)] at h1
    cases h1
    cases h2
  · rw [List.getElem?_set_ne (Ne.symm hj1)] at h1
    by_cases hj : j = i
    · subst hj
      rw [List.getElem?_set_self (by rw [sa_kill_len]; omega)] at h1
      cases h1
      exact List.mem_cons_self
    · rw [List.getElem?_set_ne (Ne.symm hj)] at h1
      obtain ⟨h3, h4⟩ := sa_kill_get h1 h2
      refine List.mem_cons_of_mem _ (List.mem_filter.mpr ⟨sa_lv_mem.mpr ⟨v, h3, h2, rfl⟩, ?_⟩)
      simp only [Bool.and_eq_true, Bool.not_eq_true', beq_eq_false_iff_ne, ne_eq, Bool.and_eq_false_iff, sa_cv_cat hav]
      refine ⟨hj, hj1, ?_⟩
      by_cases h5 : j + 1 = i
      · exact Or.inr (fun h6 => h4 ⟨h5, h6⟩)
      · exact Or.inl h5
section SAP
variable {p : Program} {l : Launch} {e : Env} {R : Room} {s : State} {mm : MethodId} {args : Array Value} {below : List Frame} {meth : Method} {c : Code} {H : Heap} {locs : List Loc} {cells slots : Nat} {Q : State → Prop}
variable {cc : ByteArray} {pc : Nat} {ls : Array Slot} {av : Nat → Value} {lo st lo' st' : List Value}
theorem sa_bi_ok {g : Int32 → Int32 → Int32} {n : Nat} (hp : sa_bi lo st g = some (lo', st')) (hl : sa_LR av lo ls)
    (k : ∀ ls' : Array Slot, sa_LR av lo' ls' → W p l e R s mm args below meth c H locs cells slots Q (F0 mm n ls' (st'.map (sa_cv av))))
    (row : ∀ (x y : Int32) (r : List Value), W p l e R s mm args below meth c H locs cells slots Q (F0 mm n ls (.int (g x y) :: r)) → W p l e R s mm args below meth c H locs cells slots Q (F0 mm pc ls (.int y :: .int x :: r))) :
    W p l e R s mm args below meth c H locs cells slots Q (F0 mm pc ls (st.map (sa_cv av))) := by
  unfold sa_bi at hp
  split at hp
  · cases hp
    exact row _ _ _ (k ls hl)
  · cases hp
theorem sa_bl_ok {g : Int64 → Int64 → Int64} {n : Nat} (hp : sa_bl lo st g = some (lo', st')) (hl : sa_LR av lo ls)
    (k : ∀ ls' : Array Slot, sa_LR av lo' ls' → W p l e R s mm args below meth c H locs cells slots Q (F0 mm n ls' (st'.map (sa_cv av))))
    (row : ∀ (x y : Int64) (r : List Value), W p l e R s mm args below meth c H locs cells slots Q (F0 mm n ls (.long (g x y) :: r)) → W p l e R s mm args below meth c H locs cells slots Q (F0 mm pc ls (.long y :: .long x :: r))) :
    W p l e R s mm args below meth c H locs cells slots Q (F0 mm pc ls (st.map (sa_cv av))) := by
  unfold sa_bl at hp
  split at hp
  · cases hp
    exact row _ _ _ (k ls hl)
  · cases hp
theorem sa_ldI_ok {n i : Nat} (hp : sa_ldI lo st i = some (lo', st')) (hl : sa_LR av lo ls)
    (k : ∀ ls' : Array Slot, sa_LR av lo' ls' → W p l e R s mm args below meth c H locs cells slots Q (F0 mm n ls' (st'.map (sa_cv av))))
    (row : ∀ (x : Int32), ls[i]? = some (.val (.int x)) → W p l e R s mm args below meth c H locs cells slots Q (F0 mm n ls (.int x :: st.map (sa_cv av))) → W p l e R s mm args below meth c H locs cells slots Q (F0 mm pc ls (st.map (sa_cv av)))) :
    W p l e R s mm args below meth c H locs cells slots Q (F0 mm pc ls (st.map (sa_cv av))) := by
  unfold sa_ldI at hp
  split at hp
  · rename_i x hx
    cases hp
    exact row x (hl.get hx rfl) (k ls hl)
  · cases hp
theorem sa_ldL_ok {n i : Nat} (hp : sa_ldL lo st i = some (lo', st')) (hl : sa_LR av lo ls)
    (k : ∀ ls' : Array Slot, sa_LR av lo' ls' → W p l e R s mm args below meth c H locs cells slots Q (F0 mm n ls' (st'.map (sa_cv av))))
    (row : ∀ (x : Int64), ls[i]? = some (.val (.long x)) → W p l e R s mm args below meth c H locs cells slots Q (F0 mm n ls (.long x :: st.map (sa_cv av))) → W p l e R s mm args below meth c H locs cells slots Q (F0 mm pc ls (st.map (sa_cv av)))) :
    W p l e R s mm args below meth c H locs cells slots Q (F0 mm pc ls (st.map (sa_cv av))) := by
  unfold sa_ldL at hp
  split at hp
  · rename_i x hx
    cases hp
    exact row x (hl.get hx rfl) (k ls hl)
  · cases hp
theorem sa_ldA_ok {n i : Nat} (hr : ∀ k, k ≠ 100005 → ∃ a, av k = .ref a) (hp : sa_ldA lo st i = some (lo', st')) (hl : sa_LR av lo ls)
    (k : ∀ ls' : Array Slot, sa_LR av lo' ls' → W p l e R s mm args below meth c H locs cells slots Q (F0 mm n ls' (st'.map (sa_cv av))))
    (row : ∀ (x : Nat), ls[i]? = some (.val (.ref x)) → W p l e R s mm args below meth c H locs cells slots Q (F0 mm n ls (.ref x :: st.map (sa_cv av))) → W p l e R s mm args below meth c H locs cells slots Q (F0 mm pc ls (st.map (sa_cv av)))) :
    W p l e R s mm args below meth c H locs cells slots Q (F0 mm pc ls (st.map (sa_cv av))) := by
  unfold sa_ldA at hp
  split at hp
  · rename_i x hx
    split at hp
    · cases hp
    · rename_i hne
      cases hp
      obtain ⟨a, ha⟩ := hr x hne
      have h1 := hl.get hx rfl
      have h2 := k ls hl
      have e1 : sa_cv av (.ref x) = .ref a := ha
      rw [e1] at h1
      rw [List.map_cons, e1] at h2
      exact row a h1 h2
  · cases hp
theorem sa_stI_ok {n i : Nat} (hav : ∀ k, (av k).category = 1) (hp : sa_stI lo st i = some (lo', st'))
    (k : ∀ ls' : Array Slot, sa_LR av lo' ls' → W p l e R s mm args below meth c H locs cells slots Q (F0 mm n ls' (st'.map (sa_cv av))))
    (row : ∀ (x : Int32) (r : List Value), i < lo.length → (∀ ls' : Array Slot, lv_has ls' lo.length ((i, .int x) :: (sa_lv av lo).filter (fun q => !(q.1 == i) && !(q.1 + 1 == i && q.2.category == 2))) → W p l e R s mm args below meth c H locs cells slots Q (F0 mm n ls' r)) → W p l e R s mm args below meth c H locs cells slots Q (F0 mm pc ls (.int x :: r))) :
    W p l e R s mm args below meth c H locs cells slots Q (F0 mm pc ls (st.map (sa_cv av))) := by
  unfold sa_stI at hp
  split at hp
  · split at hp
    · rename_i hi
      cases hp
      exact row _ _ hi (fun ls' h => k ls' (sa_LR.st1 hav hi h))
    · cases hp
  · cases hp
theorem sa_stL_ok {n i : Nat} (hav : ∀ k, (av k).category = 1) (hp : sa_stL lo st i = some (lo', st'))
    (k : ∀ ls' : Array Slot, sa_LR av lo' ls' → W p l e R s mm args below meth c H locs cells slots Q (F0 mm n ls' (st'.map (sa_cv av))))
    (row : ∀ (x : Int64) (r : List Value), i + 1 < lo.length → (∀ ls' : Array Slot, lv_has ls' lo.length ((i, .long x) :: (sa_lv av lo).filter (fun q => !(q.1 == i) && (!(q.1 == i + 1) && !(q.1 + 1 == i && q.2.category == 2)))) → W p l e R s mm args below meth c H locs cells slots Q (F0 mm n ls' r)) → W p l e R s mm args below meth c H locs cells slots Q (F0 mm pc ls (.long x :: r))) :
    W p l e R s mm args below meth c H locs cells slots Q (F0 mm pc ls (st.map (sa_cv av))) := by
  unfold sa_stL at hp
  split at hp
  · split at hp
    · rename_i hi
      cases hp
      exact row _ _ hi (fun ls' h => k ls' (sa_LR.st2 hav hi h))
    · cases hp
  · cases hp
theorem sa_stA_ok {n i : Nat} (hav : ∀ k, (av k).category = 1) (hr : ∀ k, k ≠ 100005 → ∃ a, av k = .ref a) (hp : sa_stA lo st i = some (lo', st'))
    (k : ∀ ls' : Array Slot, sa_LR av lo' ls' → W p l e R s mm args below meth c H locs cells slots Q (F0 mm n ls' (st'.map (sa_cv av))))
    (row : ∀ (x : Nat) (r : List Value), i < lo.length → (∀ ls' : Array Slot, lv_has ls' lo.length ((i, .ref x) :: (sa_lv av lo).filter (fun q => !(q.1 == i) && !(q.1 + 1 == i && q.2.category == 2))) → W p l e R s mm args below meth c H locs cells slots Q (F0 mm n ls' r)) → W p l e R s mm args below meth c H locs cells slots Q (F0 mm pc ls (.ref x :: r))) :
    W p l e R s mm args below meth c H locs cells slots Q (F0 mm pc ls (st.map (sa_cv av))) := by
  unfold sa_stA at hp
  split at hp
  · rename_i x r
    split at hp
    · cases hp
    · rename_i hne
      split at hp
      · rename_i hi
        cases hp
        obtain ⟨a, ha⟩ := hr x hne
        have e1 : sa_cv av (.ref x) = .ref a := ha
        rw [List.map_cons, e1]
        exact row _ _ hi (fun ls' h => k ls' (sa_LR.st1 hav hi (by rw [e1]; exact h)))
      · cases hp
  · cases hp
theorem sa_len {n k : Nat} (h : (n == k) = true) : n = k := by simpa using h
set_option maxHeartbeats 4000000 in
theorem sa_pu_ok (hav : ∀ k, (av k).category = 1) (hr : ∀ k, k ≠ 100005 → ∃ a, av k = .ref a) (hx : p.tables.exec = Jvm.exec) (hb : c.code = cc) {i : Instr} {len : Nat} (hd : decode cc pc = .ok (i, len)) (hn : sa_ln i len = true)
    (hp : sa_pu i lo st = some (lo', st')) (hl : sa_LR av lo ls)
    (k : ∀ ls' : Array Slot, sa_LR av lo' ls' → W p l e R s mm args below meth c H locs cells slots Q (F0 mm (pc + len) ls' (st'.map (sa_cv av)))) :
    W p l e R s mm args below meth c H locs cells slots Q (F0 mm pc ls (st.map (sa_cv av))) := by
  cases i with
  | iconst n => obtain rfl := sa_len hn; cases hp; exact lv_iconst hx hb hd rfl (k ls hl)
  | bipush n => obtain rfl := sa_len hn; cases hp; exact lv_bipush hx hb hd rfl (k ls hl)
  | sipush n => obtain rfl := sa_len hn; cases hp; exact lv_sipush hx hb hd rfl (k ls hl)
  | lconst n => obtain rfl := sa_len hn; cases hp; exact lv_lconst hx hb hd rfl (k ls hl)
  | iload_n n => obtain rfl := sa_len hn; exact sa_ldI_ok hp hl k (fun x h k => lv_iload_n hx hb hd rfl h k)
  | iload n => obtain rfl := sa_len hn; exact sa_ldI_ok hp hl k (fun x h k => lv_iload hx hb hd h k)
  | lload_n n => obtain rfl := sa_len hn; exact sa_ldL_ok hp hl k (fun x h k => lv_lload_n hx hb hd rfl h k)
  | lload n => obtain rfl := sa_len hn; exact sa_ldL_ok hp hl k (fun x h k => lv_lload hx hb hd h k)
  | aload_n n => obtain rfl := sa_len hn; exact sa_ldA_ok hr hp hl k (fun x h k => lv_aload_n hx hb hd rfl h k)
  | aload n => obtain rfl := sa_len hn; exact sa_ldA_ok hr hp hl k (fun x h k => lv_aload hx hb hd h k)
  | istore_n n => obtain rfl := sa_len hn; exact sa_stI_ok hav hp k (fun x r hi k => lv_istore_n hx hb hd rfl hl hi rfl k)
  | istore n => obtain rfl := sa_len hn; exact sa_stI_ok hav hp k (fun x r hi k => lv_istore hx hb hd hl hi rfl k)
  | lstore_n n => obtain rfl := sa_len hn; exact sa_stL_ok hav hp k (fun x r hi k => lv_lstore_n hx hb hd rfl hl hi rfl k)
  | lstore n => obtain rfl := sa_len hn; exact sa_stL_ok hav hp k (fun x r hi k => lv_lstore hx hb hd hl hi rfl k)
  | astore_n n => obtain rfl := sa_len hn; exact sa_stA_ok hav hr hp k (fun x r hi k => lv_astore_n hx hb hd rfl hl hi rfl k)
  | astore n => obtain rfl := sa_len hn; exact sa_stA_ok hav hr hp k (fun x r hi k => lv_astore hx hb hd hl hi rfl k)
  | iinc n q =>
    obtain rfl := sa_len hn
    unfold sa_pu at hp
    dsimp only at hp
    split at hp
    · rename_i x hq
      cases hp
      have hi : n < lo.length := (List.getElem?_eq_some_iff.mp hq).1
      obtain ⟨kk, hkk⟩ := List.getElem?_of_mem (sa_lv_mem.mpr ⟨_, hq, rfl, rfl⟩ : (n, sa_cv av (.int x)) ∈ sa_lv av lo)
      exact lv_iinc hx hb hd hl hkk rfl hi rfl (fun ls' h => k ls' (sa_LR.st1 hav hi h))
    · cases hp
  | iadd => obtain rfl := sa_len hn; exact sa_bi_ok hp hl k (fun x y r k => lv_iadd hx hb hd k)
  | isub => obtain rfl := sa_len hn; exact sa_bi_ok hp hl k (fun x y r k => lv_isub hx hb hd k)
  | imul => obtain rfl := sa_len hn; exact sa_bi_ok hp hl k (fun x y r k => lv_imul hx hb hd k)
  | iand => obtain rfl := sa_len hn; exact sa_bi_ok hp hl k (fun x y r k => lv_iand hx hb hd k)
  | ior => obtain rfl := sa_len hn; exact sa_bi_ok hp hl k (fun x y r k => lv_ior hx hb hd k)
  | ixor => obtain rfl := sa_len hn; exact sa_bi_ok hp hl k (fun x y r k => lv_ixor hx hb hd k)
  | ishl => obtain rfl := sa_len hn; exact sa_bi_ok hp hl k (fun x y r k => lv_ishl hx hb hd k)
  | ishr => obtain rfl := sa_len hn; exact sa_bi_ok hp hl k (fun x y r k => lv_ishr hx hb hd k)
  | iushr => obtain rfl := sa_len hn; exact sa_bi_ok hp hl k (fun x y r k => lv_iushr hx hb hd rfl k)
  | ladd => obtain rfl := sa_len hn; exact sa_bl_ok hp hl k (fun x y r k => lv_ladd hx hb hd k)
  | lsub => obtain rfl := sa_len hn; exact sa_bl_ok hp hl k (fun x y r k => lv_lsub hx hb hd k)
  | land => obtain rfl := sa_len hn; exact sa_bl_ok hp hl k (fun x y r k => lv_land hx hb hd k)
  | lor => obtain rfl := sa_len hn; exact sa_bl_ok hp hl k (fun x y r k => lv_lor hx hb hd k)
  | lxor => obtain rfl := sa_len hn; exact sa_bl_ok hp hl k (fun x y r k => lv_lxor hx hb hd k)
  | lshl =>
    obtain rfl := sa_len hn
    unfold sa_pu at hp
    dsimp only at hp
    split at hp
    · cases hp; exact lv_lshl hx hb hd rfl (k ls hl)
    · cases hp
  | lshr =>
    obtain rfl := sa_len hn
    unfold sa_pu at hp
    dsimp only at hp
    split at hp
    · cases hp; exact lv_lshr hx hb hd rfl (k ls hl)
    · cases hp
  | lcmp =>
    obtain rfl := sa_len hn
    unfold sa_pu at hp
    dsimp only at hp
    split at hp
    · cases hp; exact W.lcmp hx hb hd (k ls hl)
    · cases hp
  | i2l =>
    obtain rfl := sa_len hn
    unfold sa_pu at hp
    dsimp only at hp
    split at hp
    · cases hp; exact lv_i2l hx hb hd rfl (k ls hl)
    · cases hp
  | l2i =>
    obtain rfl := sa_len hn
    unfold sa_pu at hp
    dsimp only at hp
    split at hp
    · cases hp; exact lv_l2i hx hb hd rfl (k ls hl)
    · cases hp
  | i2b =>
    obtain rfl := sa_len hn
    unfold sa_pu at hp
    dsimp only at hp
    split at hp
    · cases hp; exact lv_i2b hx hb hd rfl (k ls hl)
    · cases hp
  | i2c =>
    obtain rfl := sa_len hn
    unfold sa_pu at hp
    dsimp only at hp
    split at hp
    · cases hp; exact lv_i2c hx hb hd rfl (k ls hl)
    · cases hp
  | dup =>
    obtain rfl := sa_len hn
    unfold sa_pu at hp
    dsimp only at hp
    split at hp
    · split at hp
      · rename_i hc
        cases hp; exact lv_dup hx hb hd (by rw [sa_cv_cat hav]; exact hc) (k ls hl)
      · cases hp
    · cases hp
  | pop =>
    obtain rfl := sa_len hn
    unfold sa_pu at hp
    dsimp only at hp
    split at hp
    · split at hp
      · rename_i hc
        cases hp; exact lv_pop hx hb hd (by rw [sa_cv_cat hav]; exact hc) (k ls hl)
      · cases hp
    · cases hp
  | dup_x1 =>
    obtain rfl := sa_len hn
    unfold sa_pu at hp
    dsimp only at hp
    split at hp
    · split at hp
      · rename_i hc
        cases hp; exact lv_dup_x1 hx hb hd (by rw [sa_cv_cat hav]; exact hc.1) (by rw [sa_cv_cat hav]; exact hc.2) (k ls hl)
      · cases hp
    · cases hp
  | dup2 =>
    obtain rfl := sa_len hn
    unfold sa_pu at hp
    dsimp only at hp
    split at hp
    · split at hp
      · rename_i hc
        cases hp; exact lv_dup2_11 hx hb hd (by rw [sa_cv_cat hav]; exact hc.1) (by rw [sa_cv_cat hav]; exact hc.2) (k ls hl)
      · cases hp
    · cases hp
  | _ => cases hp
end SAP
end
section
theorem sa_zz : True := trivial
end
